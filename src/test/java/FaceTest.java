import java.lang.reflect.Constructor;
import java.lang.reflect.Field;
import java.lang.reflect.Method;
import java.lang.reflect.Modifier;
import java.util.Arrays;
import java.util.TreeSet;

/** The public face: the document's constants, constructor and methods, and no other member that is not private. */
public final class FaceTest {
    private static final Check CHECK = new Check("FaceTest");
    private static final String FACE = "sheet(int,int,int) set(int,int,int) copy(int,int,int,int,int) drop(int)"
            + " bell(int,int,int) part(int,int) stands(int,int,int) feed(long,int) laws() fault() holds(int,int)"
            + " cart(int,int) owed(int,int,int) pass(int,int,int,int,int,int) agree(int) amiss(int,int,int)"
            + " road(int,int,int) sick(int,int,int) seal(int,int) canbe(int) lets(int,int,int,int)"
            + " dusk(int,int,int,int) clerks(int,int,int,int,int,int) guest(int,int,int,int) fell(int,int)"
            + " brought(int) high(int,int) lean(int,int,int) breaches() watch(int,int,int) day(int) kind(int)"
            + " as(int,int) ask(int,int) trace(int) count(int) status()";

    public static void main(String[] args) throws Exception {
        constants();
        constructors();
        methods();
        classesInside();
        CHECK.end();
    }

    private static void constants() throws Exception {
        int seen = 0;
        for (Field f : DuskGates.class.getDeclaredFields()) {
            if (!Modifier.isPrivate(f.getModifiers())) {
                seen++;
                CHECK.due(f + " is public static final", f.getModifiers(),
                        Modifier.PUBLIC | Modifier.STATIC | Modifier.FINAL);
            }
        }
        CHECK.due("constants", seen, 4);
        CHECK.due("NONE", DuskGates.class.getField("NONE").getInt(null), -1000000);
        CHECK.due("BAD", DuskGates.class.getField("BAD").getInt(null), -1000001);
        CHECK.due("STATE", DuskGates.class.getField("STATE").getInt(null), -1000002);
        CHECK.due("FULL", DuskGates.class.getField("FULL").getInt(null), -1000003);
    }

    private static void constructors() {
        CHECK.due("the class is public and final", DuskGates.class.getModifiers(), Modifier.PUBLIC | Modifier.FINAL);
        Constructor<?>[] all = DuskGates.class.getDeclaredConstructors();
        CHECK.due("constructors", all.length, 1);
        CHECK.due("its parameters", all[0].getParameterCount(), 0);
        CHECK.due("it is public", all[0].getModifiers(), Modifier.PUBLIC);
    }

    private static void methods() {
        TreeSet<String> face = new TreeSet<>(Arrays.asList(FACE.split(" ")));
        CHECK.due("methods of the face", face.size(), 37);
        for (Method m : DuskGates.class.getDeclaredMethods()) {
            if (Modifier.isPrivate(m.getModifiers())) {
                continue;
            }
            StringBuilder told = new StringBuilder(m.getName()).append('(');
            for (Class<?> type : m.getParameterTypes()) {
                told.append(told.charAt(told.length() - 1) == '(' ? "" : ",").append(type);
            }
            CHECK.due("the face has " + m, face.remove(told.append(')').toString()) ? 1 : 0, 1);
            CHECK.due(m + " is public", m.getModifiers(), Modifier.PUBLIC);
            CHECK.due(m + " answers an int", m.getReturnType() == int.class ? 1 : 0, 1);
        }
        CHECK.due("missing: " + face, face.size(), 0);
    }

    private static void classesInside() {
        Class<?>[] inside = DuskGates.class.getDeclaredClasses();
        CHECK.due("classes inside beyond eleven", Math.max(0, inside.length - 11), 0);
        for (Class<?> c : inside) {
            CHECK.due(c + " is static", Modifier.isStatic(c.getModifiers()) ? 1 : 0, 1);
            int own = 0;
            for (Field f : c.getDeclaredFields()) {
                if (!Modifier.isStatic(f.getModifiers())) {
                    own++;
                } else {
                    CHECK.due(f + " is final", Modifier.isFinal(f.getModifiers()) ? 1 : 0, 1);
                }
            }
            CHECK.due(c + " has more than twenty fields", own > 20 ? 1 : 0, 0);
        }
    }
}
