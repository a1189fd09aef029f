import java.lang.reflect.Constructor;
import java.lang.reflect.Field;
import java.lang.reflect.Method;
import java.lang.reflect.Modifier;
import java.util.Set;
import java.util.TreeSet;

/** The public face of the document, and rule 1 of LANGUAGE.md: nothing else is visible. */
public final class FaceTest {
    private static final String[] FACE = {
        "public static final int CodePages.NONE",
        "public CodePages()",
        "public int CodePages.page(int)",
        "public int CodePages.set(int,int,int)",
        "public int CodePages.row(int,int) throws java.lang.ArrayIndexOutOfBoundsException",
        "public int CodePages.standIn(int,int)",
        "public int CodePages.translate(int,int,int)",
        "public int CodePages.told(int)",
        "public int CodePages.order(int)",
        "public int CodePages.also(int,int,int)",
        "public int CodePages.through(int,int,int)",
        "public int CodePages.text()",
        "public int CodePages.sign(int,int)",
        "public int CodePages.whole(int,int,int)",
        "public int CodePages.at(int,int)",
        "public int CodePages.compare(int,int,int)",
        "public boolean CodePages.cls(int,int)",
        "public byte CodePages.print(int,int)",
        "public int CodePages.high(int)",
        "public int CodePages.rank(int,int)",
    };

    public static void main(String[] args) {
        Due due = new Due();
        Set<String> visible = new TreeSet<>();
        Set<String> publicNames = new TreeSet<>();
        for (Field f : CodePages.class.getDeclaredFields()) {
            if (!Modifier.isPrivate(f.getModifiers())) {
                visible.add(f.toString());
            }
        }
        for (Constructor<?> c : CodePages.class.getDeclaredConstructors()) {
            visible.add(c.toString());
        }
        for (Method m : CodePages.class.getDeclaredMethods()) {
            if (!Modifier.isPrivate(m.getModifiers())) {
                visible.add(m.toString());
                publicNames.add(m.getName());
            }
        }
        for (String member : FACE) {
            due.is("the face has " + member, visible.remove(member), true);
        }
        due.is("members beyond the face: " + visible, visible.size(), 0);
        due.is("the class is public and final",
            CodePages.class.getModifiers(), Modifier.PUBLIC | Modifier.FINAL);
        checkInside(due, publicNames);
        checkHead(due);
        due.is("NONE", CodePages.NONE, -1);
        due.is("NONE is a constant", isNone(-1), true);
        due.end();
    }

    /** "public final class CodePages {": nothing stands between the name and the brace, nor a package before it. */
    private static void checkHead(Due due) {
        Class<?> face = CodePages.class;
        due.is("it extends Object alone", face.getSuperclass() == Object.class, true);
        due.is("interfaces that it implements", face.getInterfaces().length, 0);
        due.is("type parameters", face.getTypeParameters().length, 0);
        due.is("it has no package", face.getPackageName().isEmpty(), true);
        due.is("classes inside that others see", face.getClasses().length, 0);
    }

    /** A case label takes nothing but a constant, so this compiles only while NONE is one. */
    private static boolean isNone(int answer) {
        switch (answer) {
            case CodePages.NONE:
                return true;
            default:
                return false;
        }
    }

    private static void checkInside(Due due, Set<String> publicNames) {
        for (Method m : CodePages.class.getDeclaredMethods()) {
            boolean hides = Modifier.isPrivate(m.getModifiers()) && publicNames.contains(m.getName());
            due.is(m + " bears a public one's name", hides, false);
        }
        for (Class<?> inside : CodePages.class.getDeclaredClasses()) {
            int visibility = inside.getModifiers() & (Modifier.PUBLIC | Modifier.PROTECTED);
            due.is(inside + " is public or protected", visibility, 0);
            due.is(inside + " is static", Modifier.isStatic(inside.getModifiers()), true);
        }
        for (Field f : CodePages.class.getDeclaredFields()) {
            boolean changing = Modifier.isStatic(f.getModifiers()) && !Modifier.isFinal(f.getModifiers());
            due.is(f + " is static and not final", changing, false);
        }
    }
}
