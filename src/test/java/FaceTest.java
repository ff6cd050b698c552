import java.lang.reflect.Constructor;
import java.lang.reflect.Field;
import java.lang.reflect.Method;
import java.lang.reflect.Modifier;
import java.util.ArrayList;
import java.util.HashSet;
import java.util.List;
import java.util.Set;
import java.util.TreeSet;

/** The public face: every member of the document, and no other. */
final class FaceTest {
    private static final Check check = new Check("FaceTest");

    private static final String FACE = """
            int addHardMoon(int int int) IllegalArgumentException IllegalStateException
            int addSoftMoon(int int int) IllegalArgumentException IllegalStateException
            int addBubbleMoon(int int int) IllegalArgumentException IllegalStateException
            int removeMoon(int) IndexOutOfBoundsException
            int moonCount()
            int positionOf(int) IndexOutOfBoundsException
            int massOf(int) IndexOutOfBoundsException
            int ageOf(int) IndexOutOfBoundsException
            boolean isHard(int) IndexOutOfBoundsException
            boolean isSoft(int) IndexOutOfBoundsException
            boolean isEclipsed(int) IndexOutOfBoundsException
            int placeToe(int) IndexOutOfBoundsException IllegalStateException
            int removeToe(int) IndexOutOfBoundsException IllegalStateException
            boolean hasToe(int) IndexOutOfBoundsException
            boolean insertPlug(int) IndexOutOfBoundsException
            int pullPlug() IllegalStateException
            int plugPosition() NoSuchElementException
            int layTowel(int int) IndexOutOfBoundsException IllegalArgumentException IllegalStateException
            int removeTowel(int) IndexOutOfBoundsException
            int wringTowel(int) IndexOutOfBoundsException
            int towelCount()
            int shoreOf(int) IndexOutOfBoundsException
            int heightOf(int) IndexOutOfBoundsException
            int absorbedBy(int) IndexOutOfBoundsException
            int floodsOf(int) IndexOutOfBoundsException
            int setFlow(int) IllegalArgumentException
            int advance(int) IllegalArgumentException
            int time()
            int baseLevel()
            int flow()
            int spilled()
            int tideAt(int) IndexOutOfBoundsException
            int levelAt(int) IndexOutOfBoundsException
            int highestShore()
            int tideIn(int int) IndexOutOfBoundsException IllegalArgumentException
            int tideBySteps(int int) IndexOutOfBoundsException IllegalArgumentException
            int highTideIn(int) IndexOutOfBoundsException
            int lowTideIn(int) IndexOutOfBoundsException
            int eclipseIn(int) IndexOutOfBoundsException NoSuchElementException
            int conjunctionIn(int int) IndexOutOfBoundsException NoSuchElementException
            int conjunctionByMoves(int int) IndexOutOfBoundsException NoSuchElementException
            int writeRim()
            int writeMoon(int) IndexOutOfBoundsException
            char lineAt(int) IndexOutOfBoundsException
            double meanLevel()
            float eclipsedShare() ArithmeticException
            boolean isBalanced()
            int type(char) IllegalArgumentException IllegalStateException
            int execute() IllegalArgumentException IllegalStateException
            int errorPosition() NoSuchElementException
            int failedCommand() NoSuchElementException
            int undo() IllegalStateException
            int save()
            int restore() IllegalStateException
            """;

    public static void main(String[] args) {
        Class<?> face = BathtubTides.class;
        check.same("modifiers", Modifier.PUBLIC | Modifier.FINAL, face.getModifiers());
        check.same("package", "", face.getPackageName());
        for (Constructor<?> constructor : face.getDeclaredConstructors()) {
            check.same("constructor", "public BathtubTides()", constructor.toString());
        }
        Set<String> due = new TreeSet<>(List.of(FACE.split("\n")));
        Set<String> got = new TreeSet<>();
        Set<String> names = new HashSet<>();
        for (Method method : face.getDeclaredMethods()) {
            if (!Modifier.isPrivate(method.getModifiers())) {
                check.same(method.getName(), Modifier.PUBLIC, method.getModifiers());
                got.add(describe(method));
                names.add(method.getName());
            }
        }
        check.same("methods", due, got);
        for (Method method : face.getDeclaredMethods()) {
            if (Modifier.isPrivate(method.getModifiers())) {
                check.same("own name of " + method.getName(), false, names.contains(method.getName()));
            }
        }
        for (Field field : face.getDeclaredFields()) {
            check.same("private " + field.getName(), true, Modifier.isPrivate(field.getModifiers()));
            checkStatic(field);
        }
        for (Class<?> inside : face.getDeclaredClasses()) {
            check.same("static " + inside.getName(), true, Modifier.isStatic(inside.getModifiers()));
            check.same("not public " + inside.getName(), false, Modifier.isPublic(inside.getModifiers()));
            for (Method method : inside.getDeclaredMethods()) {
                if (Modifier.isPrivate(method.getModifiers())) {
                    check.same("own name of " + method, false, names.contains(method.getName()));
                }
            }
            for (Field field : inside.getDeclaredFields()) {
                checkStatic(field);
            }
        }
        check.close();
    }

    private static void checkStatic(Field field) {
        int modifiers = field.getModifiers();
        check.same("final " + field, true, !Modifier.isStatic(modifiers) || Modifier.isFinal(modifiers));
    }

    private static String describe(Method method) {
        List<String> parameters = new ArrayList<>();
        for (Class<?> parameter : method.getParameterTypes()) {
            parameters.add(parameter.getSimpleName());
        }
        StringBuilder all = new StringBuilder();
        all.append(method.getReturnType().getSimpleName()).append(' ').append(method.getName());
        all.append('(').append(String.join(" ", parameters)).append(')');
        for (Class<?> thrown : method.getExceptionTypes()) {
            all.append(' ').append(thrown.getSimpleName());
        }
        return all.toString();
    }
}
