import java.lang.reflect.Constructor;
import java.lang.reflect.Field;
import java.lang.reflect.Method;
import java.lang.reflect.Modifier;
import java.util.Arrays;
import java.util.Set;
import java.util.TreeSet;

/** The class has the document's public face and no other member that can be seen from outside. */
public final class FaceTest {
    private static final String[] FACE = {
        "public int feed(int,int,int,int,int)",
        "public int port(int) throws IllegalArgumentException",
        "public int fault()",
        "public int count(int) throws NoSuchElementException",
        "public int grotto(int,int) throws NoSuchElementException",
        "public int guild(int,int) throws NoSuchElementException",
        "public int hours(int)",
        "public boolean hire(int,int) throws NoSuchElementException",
        "public int dismiss(int) throws NoSuchElementException",
        "public int confess(int) throws NoSuchElementException",
        "public boolean drain(int,boolean) throws NoSuchElementException",
        "public int give(int,int) throws NoSuchElementException",
        "public int undo()",
        "public int then(int,int,int) throws NoSuchElementException,IllegalArgumentException",
        "public int dripping(int) throws IllegalArgumentException",
        "public int first(int) throws NoSuchElementException",
        "public int dismissed(int) throws NoSuchElementException",
        "public int most(int,int) throws NoSuchElementException,IllegalArgumentException",
        "public int hush(int) throws IllegalArgumentException",
        "public int chorus(int) throws IllegalArgumentException",
        "public int together(int) throws IllegalArgumentException",
        "public int rhythm(int) throws IllegalArgumentException",
        "public int often(int,int) throws NoSuchElementException,IllegalArgumentException",
        "public int toHire(int,int,int) throws NoSuchElementException,IllegalArgumentException",
        "public int shared(int) throws NoSuchElementException",
        "public int has(int) throws NoSuchElementException",
        "public int toGive(int,int) throws NoSuchElementException,IllegalArgumentException",
        "public int confessing(int,int) throws NoSuchElementException,IllegalArgumentException",
        "public int see(int,int,int) throws NoSuchElementException",
        "public int greedy(int) throws NoSuchElementException",
        "public int look(int) throws NoSuchElementException",
        "public void forget()",
        "public int drought(int,int,int) throws NoSuchElementException,IllegalArgumentException",
        "public int game(int,int,int) throws NoSuchElementException,IllegalArgumentException",
        "public int years(int,int,int) throws NoSuchElementException,IllegalArgumentException",
        "public void image()",
        "public boolean restore()"};

    public static void main(String[] args) {
        Set<String> want = new TreeSet<>(Arrays.asList(FACE));
        Set<String> got = new TreeSet<>();
        for (Method method : GrottoHours.class.getDeclaredMethods()) {
            if (!Modifier.isPrivate(method.getModifiers())) {
                got.add(told(method));
            }
        }
        for (String face : FACE) {
            Check.isTrue("the class has: " + face, got.contains(face));
        }
        for (String seen : got) {
            Check.isTrue("the document has: " + seen, want.contains(seen));
        }
        fieldsAndClasses();
        Check.end();
    }

    private static String told(Method method) {
        String text = method.toGenericString();
        return text.replace("GrottoHours.", "").replace("java.lang.", "").replace("java.util.", "");
    }

    private static void fieldsAndClasses() {
        int modifiers = GrottoHours.class.getModifiers();
        Check.isTrue("public and final", Modifier.isPublic(modifiers) && Modifier.isFinal(modifiers));
        Constructor<?>[] constructors = GrottoHours.class.getDeclaredConstructors();
        Check.same("constructors", 1, constructors.length);
        Check.isTrue("it is public", Modifier.isPublic(constructors[0].getModifiers()));
        Check.same("it takes nothing", 0, constructors[0].getParameterCount());
        for (Field field : GrottoHours.class.getDeclaredFields()) {
            boolean isNone = field.getName().equals("NONE");
            Check.isTrue(field.getName(), isNone ? field.getModifiers() == (Modifier.PUBLIC | Modifier.STATIC
                | Modifier.FINAL) && field.getType() == int.class : Modifier.isPrivate(field.getModifiers()));
        }
        for (Class<?> inside : GrottoHours.class.getDeclaredClasses()) {
            Check.isTrue(inside.getName(), Modifier.isStatic(inside.getModifiers())
                && !Modifier.isPublic(inside.getModifiers()) && !Modifier.isProtected(inside.getModifiers()));
        }
    }
}
