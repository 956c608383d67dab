import java.lang.reflect.Constructor;
import java.lang.reflect.Field;
import java.lang.reflect.Method;
import java.lang.reflect.Modifier;
import java.util.Set;
import java.util.TreeSet;

/** What stands under 'The public face': the class, its constant, its constructor and its methods, and no more. */
public final class FaceTest {
    private static final String FACE = "The public face";

    private static final Set<String> METHODS = Set.of(
        "public boolean WarpMill.sizes(int,int,int,int,int,int)",
        "public boolean WarpMill.word(int,long)",
        "public boolean WarpMill.set(int,int)",
        "public boolean WarpMill.launch(int,int)",
        "public int WarpMill.run(int) throws java.lang.IllegalArgumentException,java.lang.IllegalStateException",
        "public boolean WarpMill.stop()",
        "public int WarpMill.global(int) throws java.util.NoSuchElementException",
        "public int WarpMill.state(int)",
        "public int WarpMill.unit(int,int)",
        "public int WarpMill.cached(int,int)",
        "public int WarpMill.slot(int,int,int)",
        "public int WarpMill.lane(int,int,int,int) throws java.util.NoSuchElementException",
        "public int WarpMill.shared(int,int) throws java.util.NoSuchElementException");

    public static void main(String[] args) {
        theClass();
        theConstant();
        theConstructor();
        theMethods();
        theClassesInside();
        Check.end();
    }

    private static void theClass() {
        Check.sentence(FACE, "public final class WarpMill {");
        Check.due("public and final", WarpMill.class.getModifiers(), Modifier.PUBLIC | Modifier.FINAL);
        Check.yes("without a package", WarpMill.class.getPackageName().isEmpty());
        Check.yes("a class above it", WarpMill.class.getSuperclass() == Object.class);
        Check.due("interfaces", WarpMill.class.getInterfaces().length, 0);
    }

    private static void theConstant() {
        Check.sentence(FACE, "public static final int NONE = -1;");
        Check.due("NONE", WarpMill.NONE, -1);
        Set<String> seen = new TreeSet<>();
        for (Field f : WarpMill.class.getDeclaredFields()) {
            if (!Modifier.isPrivate(f.getModifiers())) {
                seen.add(f.toGenericString());
            }
        }
        same("fields", seen, Set.of("public static final int WarpMill.NONE"));
    }

    private static void theConstructor() {
        Check.sentence(FACE, "public WarpMill();");
        Set<String> seen = new TreeSet<>();
        for (Constructor<?> c : WarpMill.class.getDeclaredConstructors()) {
            seen.add(c.toGenericString());
        }
        same("constructors", seen, Set.of("public WarpMill()"));
    }

    private static void theMethods() {
        Check.sentence(FACE, "public boolean sizes(int lanes, int slots, int units, int banks, int gates, int ints);");
        Set<String> seen = new TreeSet<>();
        Set<String> names = new TreeSet<>();
        for (Method m : WarpMill.class.getDeclaredMethods()) {
            if (!Modifier.isPrivate(m.getModifiers())) {
                seen.add(m.toGenericString());
                names.add(m.getName());
            }
        }
        same("methods", seen, METHODS);
        Check.due("names", names.size(), METHODS.size());
        for (Method m : WarpMill.class.getDeclaredMethods()) {
            boolean hidden = Modifier.isPrivate(m.getModifiers());
            Check.no(m + " is private and has a public one's name", hidden && names.contains(m.getName()));
        }
    }

    private static void theClassesInside() {
        Check.sentence("LANGUAGE.md, rule 1", "private or package-visible and static");
        for (Class<?> inside : WarpMill.class.getDeclaredClasses()) {
            int how = inside.getModifiers();
            Check.yes(inside + " is static", Modifier.isStatic(how));
            Check.no(inside + " is public or protected", Modifier.isPublic(how) || Modifier.isProtected(how));
        }
    }

    private static void same(String what, Set<String> got, Set<String> due) {
        for (String one : got) {
            Check.yes(what + ": " + one + " is of the face", due.contains(one));
        }
        for (String one : due) {
            Check.yes(what + ": " + one + " is there", got.contains(one));
        }
    }
}
