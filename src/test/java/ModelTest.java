import java.lang.reflect.InvocationTargetException;
import java.lang.reflect.Method;
import java.lang.reflect.Modifier;
import java.util.HashMap;
import java.util.Map;

/** Long runs of calls, the same ones on the program and on the model, whose answers must be equal. */
final class ModelTest {
    private static final String[] NAMES = {"append", "load", "errorPosition", "count", "unit", "support", "hinge", "weight",
        "axle", "part", "reactionLine", "shearLine", "momentLine", "area", "still", "gap", "reaction", "shear", "moment",
        "worstForReaction", "worstForShear", "worstForMoment", "worstSection", "danger", "firstDanger", "lifting", "share",
        "used", "tryHinge", "bestHinge", "strongest", "moveSupport", "moveHinge", "addLoad", "dropLoad", "addAxle",
        "dropAxle", "setBearing", "setMost", "undo", "save", "restore", "writeBeam", "writtenByte"};

    private static final Map<String, Method> METHODS = methods();

    private long seed = 20261119;
    private BeamLines beam;
    private Model model;
    private int calls;

    public static void main(String[] args) {
        ModelTest test = new ModelTest();
        for (int run = 0; run < 500; run++) {
            test.run(run);
        }
        for (int run = 0; run < 8000; run++) {
            test.runTexts(run);
        }
        Check.end();
    }

    private void start() {
        beam = new BeamLines();
        model = new Model();
        calls = 0;
    }

    /** Behind the 512th call the answers are free; the longest step makes 70 calls. */
    private boolean hasCallsLeft() {
        return calls < 440;
    }

    private void run(int run) {
        start();
        while (hasCallsLeft()) {
            if (calls == 0 || pick(60) == 0) {
                putText(text(pick(6) == 0));
                callBoth(run, "load", 0, 0);
            }
            String name = NAMES[pick(NAMES.length)];
            callBoth(run, name, argument(name, 0), argument(name, 1));
        }
    }

    /** Nothing but texts, most of them with an error. */
    private void runTexts(int run) {
        start();
        while (hasCallsLeft()) {
            putText(text(pick(3) != 0));
            callBoth(run, "load", 0, 0);
            callBoth(run, "errorPosition", 0, 0);
            callBoth(run, "unit", 0, 0);
            callBoth(run, "writeBeam", 0, 0);
            for (int what = 0; what <= 8; what++) {
                callBoth(run, "count", what, 0);
            }
        }
    }

    private int pick(int bound) {
        seed = seed * 6364136223846793005L + 1442695040888963407L;
        return (int) ((seed >>> 33) % bound);
    }

    // ---- texts

    private String text(boolean isSpoiled) {
        int length = 2 + pick(29);
        int supports = 2 + pick(Math.min(4, length / 2));
        StringBuilder text = new StringBuilder("beam " + length + " most " + number(pick(4) == 0 ? 999999 : 3000) + ";");
        boolean[] taken = new boolean[length + 1];
        for (int i = 0; i < supports; i++) {
            text.append(gap()).append("support ").append(place(taken, 0, length));
            text.append(pick(3) == 0 ? " bears " + number(pick(2) == 0 ? 99999 : 600) : "").append(";");
        }
        for (int i = 2; i < supports; i++) {
            text.append(gap()).append("hinge").append(' ').append(place(taken, 1, length - 1)).append(";");
        }
        for (int i = pick(9); i > 0; i--) {
            text.append("load ").append(number(pick(2) == 0 ? 999 : 20)).append(" at ").append(pick(length + 1)).append(";");
        }
        for (int i = pick(7); i > 0; i--) {
            text.append("axle ").append(number(pick(2) == 0 ? 999 : 20)).append("behind").append(pick(31)).append(";");
        }
        return isSpoiled ? spoiled(text) : text.toString();
    }

    private String number(int most) {
        return "0".repeat(pick(10) == 0 ? 3 : 0) + (1 + pick(most));
    }

    private String gap() {
        return " ".repeat(pick(8) == 0 ? 2 : 0);
    }

    private int place(boolean[] taken, int least, int greatest) {
        int place = least + pick(greatest - least + 1);
        for (int i = 0; i < 40 && taken[place]; i++) {
            place = least + pick(greatest - least + 1);
        }
        taken[place] = true;
        return place;
    }

    private String spoiled(StringBuilder text) {
        String[] more = {"support 3;", "hinge 4;", "load 5 at 2;", "axle 9 behind 31;", "axle 0 behind 1;", "load 1000 at 0;",
            "bears", " ", ";", "x", "A", "0", "99999999999999999999", "7", "most", "\u00e9", "support1bears 0;", "\t", "hinge 0;",
            "load 1 at 1;load 1 at 1;load 1 at 1;load 1 at 1;load 1 at 1;", "axle 1 behind 0;axle 1 behind 0;axle 1 behind 0;"};
        for (int times = 1 + pick(2); times > 0; times--) {
            int at = pick(text.length() + 1);
            switch (pick(5)) {
                case 0 -> text.insert(at, more[pick(more.length)]);
                case 1 -> text.append(more[pick(more.length)]);
                case 2 -> text.setLength(at);
                case 3 -> text.delete(at, Math.min(text.length(), at + 1 + pick(3)));
                default -> {
                    int end = text.indexOf(";", at) + 1;
                    text.insert(end, more[pick(more.length)]);
                }
            }
        }
        return text.toString();
    }

    private void putText(String text) {
        for (int start = 0; start < text.length(); start += 20) {
            int[] fours = new int[5];
            for (int index = start; index < start + 20 && index < text.length(); index++) {
                fours[(index - start) / 4] |= text.charAt(index) << 24 - (index - start) % 4 * 8;
            }
            long due = append(model::append, fours);
            Check.same("append of " + text, due, append(f -> beam.append(f[0], f[1], f[2], f[3], f[4]), fours));
            calls++;
        }
    }

    private interface Append {
        int of(int... fours);
    }

    private static long append(Append append, int[] fours) {
        try {
            return append.of(fours);
        } catch (IllegalStateException e) {
            return -1000;
        }
    }

    // ---- calls

    private int argument(String name, int which) {
        if (pick(40) == 0) {
            return new int[] {Integer.MIN_VALUE, Integer.MAX_VALUE, -1, -2, 31, 1000, 100000, 1000000}[pick(8)];
        }
        boolean isFirst = which == 0;
        switch (name) {
            case "count":
                return pick(10);
            case "support", "hinge", "weight", "axle":
                return isFirst ? pick(6) - (pick(6) == 0 ? 1 : 0) : pick(3);
            case "reaction", "share", "moveSupport", "tryHinge", "moveHinge", "reactionLine", "worstForReaction":
                return isFirst ? pick(5) : pick(40) - 1;
            case "bestHinge", "save", "restore":
                return pick(3);
            case "dropLoad", "dropAxle":
                return pick(8);
            case "setBearing":
                return isFirst ? pick(6) : pick(3) == 0 ? -1 : pick(1500);
            case "setMost":
                return pick(pick(2) == 0 ? 1000 : 1000001);
            case "addLoad", "addAxle":
                return isFirst ? pick(pick(2) == 0 ? 1001 : 60) : pick(32);
            case "append":
                return pick(4) == 0 ? 0 : pick(3) == 0 ? 32 << 16 : pick(Integer.MAX_VALUE);
            case "danger":
                return pick(62) - 1;
            default:
                return pick(34) - 1;
        }
    }

    private void callBoth(int run, String name, int a, int b) {
        calls++;
        String due = answer(model, name, a, b);
        String what = "run " + run + ", call " + calls + ": " + name + "(" + a + ", " + b + ")";
        Check.sameText(what, due, answer(beam, name, a, b));
        if (name.equals("writeBeam")) {
            for (int index = Integer.parseInt(due); index >= 0; index--) {
                callBoth(run, "writtenByte", index, 0);
            }
        }
    }

    private static String answer(Object object, String name, int a, int b) {
        Method method = METHODS.get(object.getClass().getName() + "." + name);
        Class<?>[] types = method.getParameterTypes();
        Object[] arguments = new Object[types.length];
        for (int i = 0; i < types.length; i++) {
            if (types[i] == boolean.class) {
                arguments[i] = b % 2 == 0;
            } else if (types[i] == int[].class) {
                arguments[i] = new int[] {a, b, 0, b, a};
            } else {
                // Four numbers and more has append alone.
                arguments[i] = i == 2 ? 0 : i == 0 || i == 4 ? a : b;
            }
        }
        try {
            return String.valueOf(method.invoke(object, arguments));
        } catch (InvocationTargetException e) {
            return e.getCause().getClass().getName();
        } catch (IllegalAccessException e) {
            throw new AssertionError(e);
        }
    }

    private static Map<String, Method> methods() {
        Map<String, Method> methods = new HashMap<>();
        for (String name : NAMES) {
            for (Class<?> one : new Class<?>[] {BeamLines.class, Model.class}) {
                for (Method method : one.getDeclaredMethods()) {
                    if (method.getName().equals(name) && !Modifier.isPrivate(method.getModifiers())) {
                        methods.put(one.getName() + "." + name, method);
                    }
                }
            }
        }
        return methods;
    }
}
