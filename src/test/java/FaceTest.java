import java.lang.reflect.Constructor;
import java.lang.reflect.Field;
import java.lang.reflect.Method;
import java.lang.reflect.Modifier;
import java.util.Arrays;
import java.util.Set;
import java.util.TreeSet;

/** The public face, and the rules of LANGUAGE.md that can be asked of the compiled classes. */
public final class FaceTest {
    private static final String[] DUE = {
        "int feed(int,long) IllegalArgumentException IllegalStateException",
        "int word(int) IllegalStateException",
        "int declare(int,int,int) IllegalArgumentException IllegalStateException",
        "int validate() IllegalStateException",
        "int fault(int)",
        "void clear()",
        "int argument(int)",
        "void invoke(int) IllegalArgumentException IllegalStateException IndexOutOfBoundsException",
        "int run(int)",
        "boolean stop()",
        "int result() IllegalStateException",
        "int look(int)",
        "int value(int,int) IndexOutOfBoundsException",
        "int peek(int)",
        "boolean poke(int,int)",
    };

    public static void main(String[] args) {
        theMethods();
        theConstructorAndTheConstant();
        theStaticFields();
        theClassesInside();
        Check.finish("FaceTest");
    }

    private static void theMethods() {
        Set<String> got = new TreeSet<>();
        Set<String> publicNames = new TreeSet<>();
        for (Method m : WasmCore.class.getDeclaredMethods()) {
            if (!Modifier.isPrivate(m.getModifiers())) {
                got.add(describe(m));
                publicNames.add(m.getName());
                Check.isTrue(m.getName() + " is public", Modifier.isPublic(m.getModifiers()));
            }
        }
        Set<String> due = new TreeSet<>(Arrays.asList(DUE));
        if (!got.equals(due)) {
            System.out.println("the face is " + got);
        }
        Check.isTrue("the face is the document's", got.equals(due));
        for (Class<?> c : WasmCore.class.getDeclaredClasses()) {
            for (Method m : c.getDeclaredMethods()) {
                Check.isFalse(m.getName() + " bears a public name", publicNames.contains(m.getName()));
            }
        }
    }

    private static String describe(Method m) {
        StringBuilder text = new StringBuilder();
        text.append(m.getReturnType().getSimpleName()).append(' ').append(m.getName()).append('(');
        String gap = "";
        for (Class<?> c : m.getParameterTypes()) {
            text.append(gap).append(c.getSimpleName());
            gap = ",";
        }
        text.append(')');
        Set<String> thrown = new TreeSet<>();
        for (Class<?> c : m.getExceptionTypes()) {
            thrown.add(c.getSimpleName());
        }
        for (String name : thrown) {
            text.append(' ').append(name);
        }
        return text.toString();
    }

    private static void theConstructorAndTheConstant() {
        Constructor<?>[] all = WasmCore.class.getDeclaredConstructors();
        Check.same("constructors", all.length, 1);
        Check.same("the constructor's parameters", all[0].getParameterCount(), 0);
        Check.isTrue("the constructor is public", Modifier.isPublic(all[0].getModifiers()));
        Check.isTrue("the class is public", Modifier.isPublic(WasmCore.class.getModifiers()));
        Check.isTrue("the class is final", Modifier.isFinal(WasmCore.class.getModifiers()));
        Check.same("NONE", WasmCore.NONE, -1);
        for (Field f : WasmCore.class.getDeclaredFields()) {
            boolean isPrivate = Modifier.isPrivate(f.getModifiers());
            Check.isTrue(f.getName() + " is private or NONE", isPrivate != f.getName().equals("NONE"));
        }
    }

    private static void theStaticFields() {
        staticFieldsAreFinal(WasmCore.class);
        for (Class<?> c : WasmCore.class.getDeclaredClasses()) {
            staticFieldsAreFinal(c);
        }
    }

    private static void staticFieldsAreFinal(Class<?> c) {
        int ownFields = 0;
        for (Field f : c.getDeclaredFields()) {
            if (Modifier.isStatic(f.getModifiers())) {
                Check.isTrue(c.getSimpleName() + "." + f.getName() + " is final", Modifier.isFinal(f.getModifiers()));
            } else {
                ownFields++;
            }
        }
        Check.isTrue(c.getSimpleName() + " has at most 20 fields", ownFields <= 20);
    }

    private static void theClassesInside() {
        Class<?>[] inside = WasmCore.class.getDeclaredClasses();
        Check.isTrue("at most 12 classes", inside.length + 1 <= 12);
        for (Class<?> c : inside) {
            Check.isTrue(c.getSimpleName() + " is static", Modifier.isStatic(c.getModifiers()));
            Check.isFalse(c.getSimpleName() + " is public", Modifier.isPublic(c.getModifiers()));
        }
    }
}
