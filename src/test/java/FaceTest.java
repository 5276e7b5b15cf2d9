import java.io.IOException;
import java.lang.reflect.Constructor;
import java.lang.reflect.Field;
import java.lang.reflect.Member;
import java.lang.reflect.Method;
import java.lang.reflect.Modifier;
import java.nio.file.Files;
import java.nio.file.Path;
import java.util.Set;
import java.util.TreeSet;

/** The public face is the document's, and nothing else can be seen. */
public final class FaceTest {
    private static final String[] FACE = {
        "int chips()", "int seal(long,long)", "boolean reply(int,long,long)", "void current(double)",
        "void warm(int,double)", "void bus(int)", "void want(boolean)", "void set(double)", "int tick(int)",
        "boolean reset(int)", "void cut(int)", "int power()", "boolean off()", "int time()", "double charge()",
        "int percent()", "double through()", "double allowed(boolean)", "boolean valid(int,int)",
        "int bleeding(int)", "int faults()", "int count(int)", "int journal(int)", "void spoil(int,int)"};

    public static void main(String[] args) throws IOException {
        methodsAndFields();
        declarations();
        Expect.end();
    }

    /** Each declaration of the document, with its exceptions in their order, stands in the source. */
    private static void declarations() throws IOException {
        String source = Files.readString(Path.of("src", "main", "java", "CellKeeper.java")).replaceAll("\\s+", " ");
        String document = Files.readString(Path.of("..", "shared", "DOC.md"));
        int declared = 0;
        for (String line : document.split("\n")) {
            String declaration = line.trim();
            if (declaration.startsWith("public ") && declaration.endsWith(";")) {
                declared++;
                String due = declaration.replace(";", " {");
                Expect.note(source.contains(due), "the class has no " + declaration);
            }
        }
        Expect.same("the constructor and methods that the document declares", declared, FACE.length + 1);
    }

    private static void methodsAndFields() {
        Set<String> names = new TreeSet<>();
        Set<String> seen = new TreeSet<>();
        for (Method method : CellKeeper.class.getDeclaredMethods()) {
            if (Modifier.isPublic(method.getModifiers())) {
                names.add(method.getName());
                String signature = method.toString().replaceAll(" throws .*", "");
                seen.add(signature.replace("public ", "").replace("CellKeeper.", ""));
            } else {
                Expect.note(isPrivate(method), method + " can be seen");
            }
        }
        Expect.note(seen.equals(Set.of(FACE)), "the face is " + seen);
        for (Method method : CellKeeper.class.getDeclaredMethods()) {
            boolean hidden = isPrivate(method) && names.contains(method.getName());
            Expect.note(!hidden, method + " bears the name of a public one");
        }
        for (Field field : CellKeeper.class.getDeclaredFields()) {
            Expect.note(isPrivate(field), field + " can be seen");
            Expect.note(!isStatic(field) || Modifier.isFinal(field.getModifiers()), field + " is static and not final");
        }
        Constructor<?>[] constructors = CellKeeper.class.getDeclaredConstructors();
        Expect.same("constructors", constructors.length, 1);
        Expect.same("a public constructor", Modifier.isPublic(constructors[0].getModifiers()), true);
        Expect.same("a final class", Modifier.isFinal(CellKeeper.class.getModifiers()), true);
        for (Class<?> inside : CellKeeper.class.getDeclaredClasses()) {
            Expect.note(Modifier.isStatic(inside.getModifiers()), inside + " is not static");
            Expect.note(!Modifier.isPublic(inside.getModifiers()), inside + " is public");
        }
    }

    private static boolean isPrivate(Member member) {
        return Modifier.isPrivate(member.getModifiers());
    }

    private static boolean isStatic(Member member) {
        return Modifier.isStatic(member.getModifiers());
    }
}
