import java.lang.reflect.Constructor;
import java.lang.reflect.Field;
import java.lang.reflect.Method;
import java.lang.reflect.Modifier;
import java.util.Set;
import java.util.TreeSet;

/** The public face is the document's, and nothing else of the class can be seen from outside. */
public final class FaceTest {
    private static final String[] FACE = {
        "int addWall(int,int,int)", "int hand(int)", "int setSnow(int,int)", "int shout(int,boolean,int)",
        "int pass(int)", "int beat()", "int walls()", "int shouts()", "int underWay()", "int overlaps()",
        "int snowOn(int)", "int wallOn(int)", "int loudOn(int)", "int stoneOf(int)", "int ownerOf(int)",
        "int thrownBack(int)", "int coinsOf(int)", "int wallsOf(int)", "int silentFor(int)", "int inherited()",
        "int loudnessOf(int)", "int placeOf(int)", "boolean goesRight(int)", "int turnsOf(int)",
        "int nextWall(int,boolean)", "int beatsUntilGone(int)", "int beatsUntilQuiet()", "int coinsIn(int,int)",
        "int loudestOn(int,int)", "int loudnessWanted(int,boolean,int)", "int bestStone(int)",
        "double meanLoudness()", "long digest()",
    };

    private static int wrong = 0;

    private static void check(String what, boolean holds) {
        if (!holds) {
            wrong++;
            System.out.println("does not hold: " + what);
        }
    }

    public static void main(String[] args) {
        Class<?> face = CanyonEchoes.class;
        check("the class is public and final, without a package",
                Modifier.isPublic(face.getModifiers()) && Modifier.isFinal(face.getModifiers())
                        && face.getPackageName().isEmpty());
        Constructor<?>[] made = face.getDeclaredConstructors();
        check("one public constructor without parameters",
                made.length == 1 && Modifier.isPublic(made[0].getModifiers()) && made[0].getParameterCount() == 0);
        checkMethods(face);
        for (Field field : face.getDeclaredFields()) {
            check("private: " + field, Modifier.isPrivate(field.getModifiers()));
            check("a static field is final: " + field, isFinalIfStatic(field));
        }
        for (Class<?> inner : face.getDeclaredClasses()) {
            check("static, and not seen: " + inner, Modifier.isStatic(inner.getModifiers())
                    && !Modifier.isPublic(inner.getModifiers()) && !Modifier.isProtected(inner.getModifiers()));
        }
        System.out.println(wrong == 0 ? "the face is the document's" : wrong + " faults");
        if (wrong != 0) {
            System.exit(1);
        }
    }

    private static void checkMethods(Class<?> face) {
        Set<String> seen = new TreeSet<>();
        Set<String> publicNames = new TreeSet<>();
        for (Method method : face.getDeclaredMethods()) {
            if (Modifier.isPublic(method.getModifiers())) {
                seen.add(signature(method));
                publicNames.add(method.getName());
                check("not static: " + method, !Modifier.isStatic(method.getModifiers()));
            }
        }
        check("the methods of the face: " + seen, seen.equals(new TreeSet<>(Set.of(FACE))));
        for (Method method : face.getDeclaredMethods()) {
            if (!Modifier.isPublic(method.getModifiers())) {
                check("private: " + method, Modifier.isPrivate(method.getModifiers()));
                check("no name of a public one: " + method, !publicNames.contains(method.getName()));
            }
        }
    }

    private static boolean isFinalIfStatic(Field field) {
        return !Modifier.isStatic(field.getModifiers()) || Modifier.isFinal(field.getModifiers());
    }

    private static String signature(Method method) {
        StringBuilder s = new StringBuilder(method.getReturnType().getName() + " " + method.getName() + "(");
        for (Class<?> type : method.getParameterTypes()) {
            s.append(s.charAt(s.length() - 1) == '(' ? "" : ",").append(type.getName());
        }
        return s.append(')').toString();
    }
}
