import java.lang.reflect.Constructor;
import java.lang.reflect.Field;
import java.lang.reflect.Method;
import java.lang.reflect.Modifier;
import java.util.Set;
import java.util.TreeSet;

/** The face of the class is that of the document, and nothing else of it can be reached. */
final class FaceTests {
    private static final String[] METHODS = {
        "int tide(int,int)", "int tides(int,int,long)", "int rain(int,boolean)", "int rule(int,int)",
        "int thing(int,int)", "int tackle(int,int,int)", "int seam(int,int,int,int,int,int)", "int ship(int)",
        "int tackleTold(int,int)", "int greatest(boolean)", "int seamTold(int,int)", "int move(int)", "int heel(int)",
        "int hour(int)", "int rig(int,boolean)", "int plan(int,int)", "int orders(int,int)", "int toFloat(int)",
        "int tap(int,int)", "int worm(int,int)", "int book(int)", "int keep()", "int back()", "int count(int)"};

    private FaceTests() {
    }

    static void all() {
        Due.holds(Modifier.isPublic(BeachedShip.class.getModifiers()), "the class is public");
        Due.holds(Modifier.isFinal(BeachedShip.class.getModifiers()), "the class is final");
        Due.holds(methods().equals(new TreeSet<>(Set.of(METHODS))), "the methods are " + methods());
        Set<String> fields = new TreeSet<>();
        for (Field f : BeachedShip.class.getDeclaredFields()) {
            boolean fixed = Modifier.isStatic(f.getModifiers()) && Modifier.isFinal(f.getModifiers());
            Due.holds(fixed || !Modifier.isStatic(f.getModifiers()), "static fields are final: " + f);
            if (!Modifier.isPrivate(f.getModifiers())) {
                fields.add(f.getName());
            }
        }
        Due.holds(fields.equals(Set.of("BAD", "NO", "FULL", "NONE")), "the constants are " + fields);
        Constructor<?>[] made = BeachedShip.class.getDeclaredConstructors();
        Due.is(1, made.length, "constructors");
        Due.is(0, made[0].getParameterCount(), "what the constructor takes");
        for (Class<?> c : BeachedShip.class.getDeclaredClasses()) {
            Due.holds(Modifier.isStatic(c.getModifiers()), "a class inside is static: " + c);
            Due.holds(!Modifier.isPublic(c.getModifiers()), "a class inside is not public: " + c);
        }
    }

    private static Set<String> methods() {
        Set<String> found = new TreeSet<>();
        for (Method m : BeachedShip.class.getDeclaredMethods()) {
            if (!Modifier.isPrivate(m.getModifiers())) {
                StringBuilder told = new StringBuilder(m.getReturnType().getSimpleName() + " " + m.getName() + "(");
                for (int i = 0; i < m.getParameterCount(); i++) {
                    told.append(i == 0 ? "" : ",").append(m.getParameterTypes()[i].getSimpleName());
                }
                found.add(told.append(")").toString());
            }
        }
        return found;
    }
}
