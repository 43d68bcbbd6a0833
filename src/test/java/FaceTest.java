import java.lang.reflect.Constructor;
import java.lang.reflect.Field;
import java.lang.reflect.Method;
import java.lang.reflect.Modifier;
import java.util.Arrays;
import java.util.HashSet;
import java.util.Set;
import java.util.TreeSet;

/** The face is the document's and no more; and the rules of LANGUAGE.md that a look at the class can check. */
public final class FaceTest {
    private static final String METHODS = "man4 told2 bears2 as2 turns2 set3 says4 sets0 deal1 seed1 goes1 alley1 best2 pair1 clear1 force2 behind2 "
        + "falls1 becomes3 like2 fee0 fine1 feed3 trim1 text0 textTold2 why1 sheet3 mark3 pour1 reads1 copy5 lay3 ask2 item2 rest2 tell1 check1 "
        + "keep0 back0 count1";
    private static final String CONSTANTS = "BAD NO FULL NONE NOTHING KIND INDEX SIZE";

    public static void main(String[] args) throws ReflectiveOperationException {
        Set<String> found = new TreeSet<>();
        Set<String> names = new HashSet<>();
        for (Method m : SkittleMen.class.getDeclaredMethods()) {
            if (!Modifier.isPrivate(m.getModifiers())) {
                boolean plain = m.getModifiers() == Modifier.PUBLIC && m.getReturnType() == int.class
                    && Arrays.stream(m.getParameterTypes()).allMatch(t -> t == int.class);
                found.add(m.getName() + m.getParameterCount() + (plain ? "" : " is not a public int of ints"));
                names.add(m.getName());
            }
        }
        same("methods", new TreeSet<>(Arrays.asList(METHODS.split(" "))), found);
        Set<String> fields = new TreeSet<>();
        for (Field f : SkittleMen.class.getDeclaredFields()) {
            if (!Modifier.isPrivate(f.getModifiers())) {
                fields.add(f.getName());
            }
        }
        same("constants", new TreeSet<>(Arrays.asList(CONSTANTS.split(" "))), fields);
        constants();
        Due.due(1, "the class is public and final", Modifier.PUBLIC | Modifier.FINAL, SkittleMen.class.getModifiers());
        Constructor<?>[] made = SkittleMen.class.getDeclaredConstructors();
        Due.due(1, "one constructor", 1, made.length);
        Due.due(1, "it is public", Modifier.PUBLIC, made[0].getModifiers());
        privateNames(SkittleMen.class, names);
        for (Class<?> inside : SkittleMen.class.getDeclaredClasses()) {
            Due.due(1, inside + " is static", 1, Modifier.isStatic(inside.getModifiers()) ? 1 : 0);
            privateNames(inside, names);
        }
        Due.end();
    }

    private static void constants() {
        int[] due = {-1000000001, -1000000002, -1000000003, -1000000005, -1000000011, -1000000012, -1000000013, -1000000014};
        int[] got = {SkittleMen.BAD, SkittleMen.NO, SkittleMen.FULL, SkittleMen.NONE, SkittleMen.NOTHING, SkittleMen.KIND, SkittleMen.INDEX, SkittleMen.SIZE};
        for (int i = 0; i < due.length; i++) {
            Due.due(1, "constant " + i, due[i], got[i]);
        }
    }

    private static void same(String what, Set<String> due, Set<String> found) {
        if (!due.equals(found)) {
            Due.due(1, what + " are " + found, 0, 1);
        }
    }

    private static void privateNames(Class<?> of, Set<String> names) {
        for (Method m : of.getDeclaredMethods()) {
            if (Modifier.isPrivate(m.getModifiers()) && names.contains(m.getName())) {
                Due.due(1, "private " + of.getName() + "." + m.getName() + " bears the name of a public one", 0, 1);
            }
        }
    }
}
