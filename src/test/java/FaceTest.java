import java.lang.reflect.Constructor;
import java.lang.reflect.Field;
import java.lang.reflect.Method;
import java.lang.reflect.Modifier;
import java.util.Set;
import java.util.TreeSet;

/** The public face of the document, and rules 1, 5 and 11 of LANGUAGE.md, by reflection. */
public final class FaceTest {
    private static final String[] FACE = {
        "int counter(int,int,int)", "int wire(int,int,int)", "boolean down(int,int,int)",
        "int least(int,int)", "boolean band(int,int)", "int fee(int)",
        "int order(int,int,int,int)", "int stop(int)", "int pay(int,int)",
        "boolean cart(int,int,int)", "boolean garble(int,int,int)", "int go(int)",
        "int sign(int,int)", "int message(int,int)", "int told(int,int)", "int at(int,int)",
        "int count(int)"};

    public static void main(String[] args) {
        Class<?> face = WireMoney.class;
        Check.yes("public and final", Modifier.isPublic(face.getModifiers()) && Modifier.isFinal(face.getModifiers()));
        Set<String> names = publicMethods(face);
        constructors(face);
        fields(face);
        Class<?>[] inside = face.getDeclaredClasses();
        Check.yes("at most twelve classes", inside.length + 1 <= 12);
        for (Class<?> c : inside) {
            insideClass(c, names);
        }
        Check.end("FaceTest");
    }

    private static Set<String> publicMethods(Class<?> face) {
        Set<String> found = new TreeSet<>();
        Set<String> names = new TreeSet<>();
        for (Method m : face.getDeclaredMethods()) {
            if (Modifier.isPrivate(m.getModifiers())) {
                continue;
            }
            Check.yes(m + " is public, not static", Modifier.isPublic(m.getModifiers()) && !Modifier.isStatic(m.getModifiers()));
            StringBuilder text = new StringBuilder(m.getReturnType() + " " + m.getName() + "(");
            for (Class<?> p : m.getParameterTypes()) {
                text.append(text.charAt(text.length() - 1) == '(' ? "" : ",").append(p);
            }
            found.add(text.append(')').toString());
            names.add(m.getName());
        }
        for (String want : FACE) {
            Check.yes("there is " + want, found.remove(want));
        }
        Check.yes("no other public method: " + found, found.isEmpty());
        for (Method m : face.getDeclaredMethods()) {
            boolean shares = Modifier.isPrivate(m.getModifiers()) && names.contains(m.getName());
            Check.no(m + " bears the name of a public one", shares);
        }
        return names;
    }

    private static void constructors(Class<?> face) {
        Constructor<?>[] all = face.getDeclaredConstructors();
        Check.due("constructors", all.length, 1);
        Check.yes("a public one without arguments",
                Modifier.isPublic(all[0].getModifiers()) && all[0].getParameterCount() == 0);
    }

    private static void fields(Class<?> c) {
        int count = 0;
        for (Field f : c.getDeclaredFields()) {
            boolean isStatic = Modifier.isStatic(f.getModifiers());
            count += isStatic ? 0 : 1;
            Check.yes(f + " is final if static", !isStatic || Modifier.isFinal(f.getModifiers()));
            if (c == WireMoney.class && !Modifier.isPrivate(f.getModifiers())) {
                Check.yes(f + " is NONE", f.getName().equals("NONE") && f.getType() == int.class && isStatic);
            }
        }
        Check.yes(c + " has at most twenty fields", count <= 20);
    }

    private static void insideClass(Class<?> c, Set<String> publicNames) {
        int mods = c.getModifiers();
        Check.yes(c + " is static", Modifier.isStatic(mods));
        Check.no(c + " is public or protected", Modifier.isPublic(mods) || Modifier.isProtected(mods));
        fields(c);
        for (Method m : c.getDeclaredMethods()) {
            Check.no(m + " bears the name of a public one", publicNames.contains(m.getName()));
            Check.yes(m + " takes at most seven", m.getParameterCount() <= 7);
        }
    }
}
