import java.lang.reflect.Constructor;
import java.lang.reflect.Field;
import java.lang.reflect.Method;
import java.lang.reflect.Modifier;
import java.util.Arrays;
import java.util.Random;
import java.util.TreeSet;

/** The public face is the document's and no more; no call throws for any arguments in any state. */
public final class FaceTest {
    private static final Due DUE = new Due("FaceTest");
    private static final String[] FACE = {
        "int arch(int, boolean)", "int gap(int)", "int walker(int, int, int)", "int leave(int)", "int say(int)",
        "int wipe()", "int fault()", "int judge(int)", "int done()", "int behind(int, int)", "int then(int)",
        "int standing(int, int)", "int trip(int, int, int)", "int again(int, int)", "int order(int, int, int)",
        "int seen(int, int)", "int forget()", "int fits(int)", "int ask(int)", "int lengths(int, int, int)",
        "long calm(int, int, int, int, int)", "int year(int, int, int)", "int image(int)", "int restore(int)",
        "int told(int)"};
    private static final int[] ODD = {Integer.MIN_VALUE, Integer.MIN_VALUE + 1, -1000000, -100, -7, -6, -2, -1, 0, 1, 2,
        5, 6, 7, 10, 19, 20, 31, 32, 33, 60, 61, 69, 70, 99, 100, 126, 127, 999999, 1000000, Integer.MAX_VALUE};

    public static void main(String[] args) throws ReflectiveOperationException {
        face();
        constants();
        nothingThrows();
        DUE.end();
    }

    private static void face() {
        TreeSet<String> got = new TreeSet<>();
        TreeSet<String> hidden = new TreeSet<>();
        for (Method method : WaterOthers.class.getDeclaredMethods()) {
            if (Modifier.isPrivate(method.getModifiers())) {
                hidden.add(method.getName());
            } else {
                DUE.isTrue(method + " is public and not static", Modifier.isPublic(method.getModifiers())
                        && !Modifier.isStatic(method.getModifiers()));
                got.add(textOf(method));
            }
        }
        DUE.isTrue("the face is " + got, got.equals(new TreeSet<>(Arrays.asList(FACE))));
        for (String line : FACE) {
            String name = line.substring(line.indexOf(' ') + 1, line.indexOf('('));
            DUE.isTrue("no private method is named " + name, !hidden.contains(name));
        }
        Constructor<?>[] made = WaterOthers.class.getDeclaredConstructors();
        DUE.isTrue("one public constructor without parameters", made.length == 1
                && Modifier.isPublic(made[0].getModifiers()) && made[0].getParameterCount() == 0);
        DUE.isTrue("final", Modifier.isFinal(WaterOthers.class.getModifiers()));
    }

    private static String textOf(Method method) {
        StringBuilder text = new StringBuilder(method.getReturnType() + " " + method.getName() + "(");
        for (Class<?> type : method.getParameterTypes()) {
            text.append(text.charAt(text.length() - 1) == '(' ? "" : ", ").append(type);
        }
        return text.append(")").toString();
    }

    private static void constants() throws ReflectiveOperationException {
        String[] names = {"NONE", "UNKNOWN", "OUTSIDE", "STATE", "FULL", "NO", "LOST"};
        long[] values = {-6, -1, -2, -3, -4, -5, -1000000000000000000L};
        TreeSet<String> left = new TreeSet<>(Arrays.asList(names));
        for (Field field : WaterOthers.class.getDeclaredFields()) {
            if (!Modifier.isPrivate(field.getModifiers())) {
                int i = Arrays.asList(names).indexOf(field.getName());
                DUE.isTrue(field + " is in the document", i >= 0 && Modifier.isStatic(field.getModifiers())
                        && Modifier.isFinal(field.getModifiers()) && Modifier.isPublic(field.getModifiers()));
                if (i >= 0) {
                    DUE.is(names[i], field.getLong(null), values[i]);
                    DUE.isTrue(names[i] + "'s type", field.getType() == (i == 6 ? long.class : int.class));
                    left.remove(names[i]);
                }
            }
        }
        DUE.isTrue("no constant lacks: " + left, left.isEmpty());
    }

    private static void nothingThrows() throws ReflectiveOperationException {
        Random random = new Random(26);
        Method[] calls = WaterOthers.class.getMethods();
        Arrays.sort(calls, (a, b) -> textOf(a).compareTo(textOf(b)));
        for (int run = 0; run < 400; run++) {
            WaterOthers x = new WaterOthers();
            for (int i = 0; i < 512; i++) {
                Method call = calls[random.nextInt(calls.length)];
                if (call.getDeclaringClass() == WaterOthers.class) {
                    invoke(x, call, random, run % 4 == 0);
                } else {
                    writeSome(x, random);
                }
            }
        }
    }

    private static void invoke(WaterOthers x, Method call, Random random, boolean isOdd)
            throws ReflectiveOperationException {
        Object[] given = new Object[call.getParameterCount()];
        for (int i = 0; i < given.length; i++) {
            if (call.getParameterTypes()[i] == boolean.class) {
                given[i] = random.nextBoolean();
            } else if (isOdd) {
                given[i] = ODD[random.nextInt(ODD.length)];
            } else {
                given[i] = random.nextInt(4) > 0 ? random.nextInt(7) - 1 : random.nextInt(200) - 50;
            }
        }
        try {
            call.invoke(x, given);
        } catch (java.lang.reflect.InvocationTargetException thrown) {
            DUE.isTrue(call.getName() + Arrays.toString(given) + " throws " + thrown.getCause(), false);
        }
    }

    private static void writeSome(WaterOthers x, Random random) {
        if (random.nextInt(3) > 0) {
            x.say("ABCDEF".charAt(random.nextInt(6)));
            x.say("<>=*".charAt(random.nextInt(4)));
        } else {
            x.say("~.".charAt(random.nextInt(2)));
        }
    }
}
