import java.lang.reflect.InvocationTargetException;
import java.lang.reflect.Method;
import java.util.ArrayList;
import java.util.Arrays;
import java.util.Comparator;
import java.util.List;
import java.util.SplittableRandom;

/** Runs of 512 calls that are drawn from fixed seeds: every answer must be that of PlainTub. */
final class ModelTest {
    private static final int RUNS = 600;
    private static final int CALLS = 512;
    private static final int[] EXTREMES = {Integer.MIN_VALUE, Integer.MIN_VALUE + 1, -100, Integer.MAX_VALUE - 1,
        Integer.MAX_VALUE, 1 << 30, 1000};
    private static final Check check = new Check("ModelTest");

    private final SplittableRandom random;
    private final BathtubTides tub = new BathtubTides();
    private final PlainTub plain = new PlainTub();
    private final List<Method> methods;
    private final int[] weights;
    private final StringBuilder calls = new StringBuilder();
    private String typing = "";

    private ModelTest(int seed) {
        random = new SplittableRandom(seed);
        methods = new ArrayList<>();
        for (Method method : BathtubTides.class.getMethods()) {
            if (method.getDeclaringClass() == BathtubTides.class) {
                methods.add(method);
            }
        }
        methods.sort(Comparator.comparing(Method::getName));
        weights = new int[methods.size()];
        for (int i = 0; i < weights.length; i++) {
            String name = methods.get(i).getName();
            // each run has its own mood, so that tubs get full in some and moons grow old in others
            weights[i] = 1 + random.nextInt(4);
            if (name.equals("type")) {
                weights[i] = new int[] {0, 40, 120}[seed % 3];
            } else if (name.startsWith("add") || name.startsWith("lay") || name.equals("advance")) {
                weights[i] += random.nextInt(12);
            } else if (name.equals("execute") || name.startsWith("remove") || name.equals("restore")) {
                weights[i] = random.nextInt(3);
            }
        }
    }

    public static void main(String[] args) throws Exception {
        for (int seed = 1; seed <= RUNS; seed++) {
            new ModelTest(seed).run(seed);
        }
        check.close();
    }

    private void run(int seed) throws Exception {
        for (int call = 0; call < CALLS; call++) {
            Method method = draw();
            Object[] values = method.getName().equals("type") ? new Object[] {nextSign()} : drawValues(method);
            Method same = PlainTub.class.getDeclaredMethod(method.getName(), method.getParameterTypes());
            Object due = answer(same, plain, values);
            Object got = answer(method, tub, values);
            String name = method.getName() + Arrays.toString(values);
            calls.append(name).append(' ');
            check.same("seed " + seed + " call " + call + " " + name, due, got);
            if (!due.equals(got)) {
                System.out.println(calls);
                return;
            }
        }
    }

    private static Object answer(Method method, Object object, Object[] values) throws Exception {
        try {
            return method.invoke(object, values);
        } catch (InvocationTargetException thrown) {
            return thrown.getCause().getClass();
        }
    }

    private Method draw() {
        if (!typing.isEmpty() && random.nextInt(5) > 0) {
            return named("type");
        }
        int total = Arrays.stream(weights).sum();
        int left = random.nextInt(total);
        for (int i = 0; i < weights.length; i++) {
            left -= weights[i];
            if (left < 0) {
                return methods.get(i);
            }
        }
        throw new IllegalStateException();
    }

    private Method named(String name) {
        return methods.stream().filter(method -> method.getName().equals(name)).findFirst().orElseThrow();
    }

    private Object[] drawValues(Method method) {
        Object[] values = new Object[method.getParameterCount()];
        for (int i = 0; i < values.length; i++) {
            values[i] = drawValue(method.getName(), i);
        }
        return values;
    }

    private int drawValue(String name, int index) {
        int[] range = range(name, index);
        int kind = random.nextInt(24);
        if (kind == 0) {
            return EXTREMES[random.nextInt(EXTREMES.length)];
        }
        if (kind < 3) {
            return kind == 1 ? range[0] - 1 : range[1] + 1;
        }
        if (kind < 6) {
            return kind < 5 ? range[0] : range[1];
        }
        return range[0] + random.nextInt(range[1] - range[0] + 1);
    }

    private int[] range(String name, int index) {
        if (name.startsWith("add")) {
            return new int[][] {{1, 6}, {0, 11}, {1, 12}}[index];
        }
        if (name.equals("layTowel") && index == 1) {
            return new int[] {0, random.nextInt(2) == 0 ? 60 : 15};
        }
        if (name.startsWith("tide") && index == 1) {
            return new int[] {0, 144};
        }
        switch (name) {
            case "setFlow":
                return new int[] {-3, 3};
            case "advance":
                return new int[] {1, random.nextInt(2) == 0 ? 60 : 5};
            case "lineAt":
                return new int[] {0, 40};
            case "removeMoon", "positionOf", "massOf", "ageOf", "isHard", "isSoft", "isEclipsed", "writeMoon",
                    "eclipseIn", "conjunctionIn", "conjunctionByMoves":
                return new int[] {0, Math.max(1, plain.moonCount() - 1)};
            case "removeTowel", "wringTowel", "shoreOf", "heightOf", "absorbedBy", "floodsOf":
                return new int[] {0, Math.max(1, plain.towelCount() - 1)};
            default:
                return new int[] {0, 11};
        }
    }

    private char nextSign() {
        int kind = random.nextInt(300);
        if (kind == 0) {
            return (char) random.nextInt(65536);
        }
        if (kind == 1) {
            return (char) (32 + random.nextInt(95));
        }
        if (typing.isEmpty()) {
            typing = drawText();
        }
        char sign = typing.charAt(0);
        typing = typing.substring(1);
        return sign;
    }

    private String drawText() {
        StringBuilder text = new StringBuilder();
        int commands = 1 + random.nextInt(5);
        for (int i = 0; i < commands; i++) {
            text.append(i == 0 ? "" : ";").append(drawCommand());
        }
        if (random.nextInt(4) == 0) {
            text.setCharAt(random.nextInt(text.length()), " ;-0159hx".charAt(random.nextInt(9)));
        }
        return text.toString();
    }

    private String drawCommand() {
        switch (random.nextInt(12)) {
            case 0:
                return "hard" + number("addHardMoon", 0) + number("addHardMoon", 1) + number("addHardMoon", 2);
            case 1:
                return "soft" + number("addHardMoon", 0) + number("addHardMoon", 1) + number("addHardMoon", 2);
            case 2:
                return "bubble" + number("addHardMoon", 0) + number("addHardMoon", 1) + number("addHardMoon", 2);
            case 3:
                return "remove" + number("removeMoon", 0);
            case 4:
                return "toe" + number("placeToe", 0);
            case 5:
                return "shave" + number("removeToe", 0);
            case 6:
                return "plug" + number("insertPlug", 0);
            case 7:
                return "pull";
            case 8:
                return "towel" + number("layTowel", 0) + number("layTowel", 1);
            case 9:
                return "wring" + number("wringTowel", 0);
            case 10:
                return random.nextInt(2) == 0 ? "flow -" + random.nextInt(5) : "flow " + random.nextInt(5);
            default:
                return "wait" + number("advance", 0);
        }
    }

    private String number(String name, int index) {
        int[] range = range(name, index);
        int number = Math.max(0, range[0] + random.nextInt(range[1] - range[0] + (random.nextInt(8) == 0 ? 2 : 1)));
        return (number < 10 && random.nextInt(5) == 0 ? " 0" : " ") + number;
    }
}
