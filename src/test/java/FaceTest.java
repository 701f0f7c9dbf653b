import java.lang.reflect.Field;
import java.lang.reflect.Member;
import java.lang.reflect.Method;
import java.lang.reflect.Modifier;
import java.util.ArrayList;
import java.util.Collections;
import java.util.List;
import java.util.TreeSet;

/** The public face is the document's, and nothing else can be seen from outside. */
final class FaceTest {
    private static final String[] FACE = {
        "write 1", "erase 0", "fault 0", "well 0", "sister 2", "as 2", "sieveAs 2", "begin 1",
        "rest 1", "moss 1", "smear 1", "go 1", "undo 0", "keep 1", "back 1", "level 1", "highest 1",
        "full 0", "mossTo 1", "adds 2", "fewest 1", "together 2", "pitch 1", "seen 2", "forget 0",
        "worked 1", "leaves 4", "count 1"};

    public static void main(String[] args) {
        Check check = new Check("FaceTest");
        check.due("NONE", SieveTub.NONE, -1);
        check.due("UNKNOWN", SieveTub.UNKNOWN, -2);
        check.due("OUTSIDE", SieveTub.OUTSIDE, -3);
        check.due("NOT", SieveTub.NOT, -4);
        check.due("FULL", SieveTub.FULL, -5);
        check.due("final", SieveTub.class.getModifiers() & (Modifier.FINAL | Modifier.PUBLIC),
                Modifier.FINAL | Modifier.PUBLIC);
        check.due("constructors", SieveTub.class.getDeclaredConstructors().length, 1);
        check.due("public constructors", SieveTub.class.getConstructors().length, 1);
        checkMethods(check);
        checkFields(check);
        checkInside(check);
        checkKept(check, SieveTub.class);
        for (Class<?> one : SieveTub.class.getDeclaredClasses()) {
            checkKept(check, one);
        }
        check.end();
    }

    private static void checkMethods(Check check) {
        List<String> face = new ArrayList<>();
        TreeSet<String> publicNames = new TreeSet<>();
        for (Method method : SieveTub.class.getDeclaredMethods()) {
            if (Modifier.isPublic(method.getModifiers())) {
                face.add(method.getName() + " " + method.getParameterCount());
                publicNames.add(method.getName());
                check.due(method + " answers int", method.getReturnType() == int.class ? 1 : 0, 1);
                check.due(method + " is static", method.getModifiers() & Modifier.STATIC, 0);
            }
        }
        List<String> want = new ArrayList<>(List.of(FACE));
        Collections.sort(face);
        Collections.sort(want);
        check.due("the face " + face, face.equals(want) ? 1 : 0, 1);
        for (Method method : SieveTub.class.getDeclaredMethods()) {
            if (!Modifier.isPublic(method.getModifiers())) {
                check.due(method + " is private", isPrivate(method), 1);
                check.due(method + " has a public name",
                        publicNames.contains(method.getName()) ? 1 : 0, 0);
            }
        }
    }

    private static void checkFields(Check check) {
        TreeSet<String> constants = new TreeSet<>(List.of("NONE", "UNKNOWN", "OUTSIDE", "NOT", "FULL"));
        int found = 0;
        for (Field field : SieveTub.class.getDeclaredFields()) {
            if (constants.contains(field.getName())) {
                found++;
                check.due(field + " is a constant", field.getModifiers(),
                        Modifier.PUBLIC | Modifier.STATIC | Modifier.FINAL);
            } else {
                check.due(field + " is private", isPrivate(field), 1);
                boolean isChanging = Modifier.isStatic(field.getModifiers())
                        && !Modifier.isFinal(field.getModifiers());
                check.due(field + " is static state", isChanging ? 1 : 0, 0);
            }
        }
        check.due("constants", found, 5);
    }

    private static void checkInside(Check check) {
        Class<?>[] inside = SieveTub.class.getDeclaredClasses();
        check.due("at most some twelve classes", inside.length <= 12 ? 1 : 0, 1);
        for (Class<?> one : inside) {
            check.due(one + " is static", one.getModifiers() & Modifier.STATIC, Modifier.STATIC);
            check.due(one + " is public or protected",
                    one.getModifiers() & (Modifier.PUBLIC | Modifier.PROTECTED), 0);
            for (Method method : one.getDeclaredMethods()) {
                boolean isOfFace = String.join(",", FACE).matches("(.*,)?" + method.getName() + " .*")
                        && !method.isSynthetic();
                check.due(method + " has a public name", isOfFace ? 1 : 0, 0);
            }
        }
    }

    /** LANGUAGE.md's rules 2, 5 and 11: what fields may be, and how many. */
    private static void checkKept(Check check, Class<?> owner) {
        int many = 0;
        for (Field field : owner.getDeclaredFields()) {
            if (field.isSynthetic() || field.isEnumConstant()) {
                continue;
            }
            String type = field.getType().getSimpleName();
            if (Modifier.isStatic(field.getModifiers())) {
                check.due(field + " is final", field.getModifiers() & Modifier.FINAL, Modifier.FINAL);
                check.due(field + " may be static", type.matches(
                        "int|long|boolean|char|String|(int|long|char|byte)\\[\\]") ? 1 : 0, 1);
            } else {
                many++;
                boolean mayStand = !owner.isEnum() || type.matches("int|long|boolean|String");
                check.due(field + " may stand in an enum", mayStand ? 1 : 0, 1);
            }
        }
        check.due(owner + " has some twenty fields at most", many <= 20 ? 1 : 0, 1);
    }

    private static int isPrivate(Member member) {
        return Modifier.isPrivate(member.getModifiers()) ? 1 : 0;
    }
}
