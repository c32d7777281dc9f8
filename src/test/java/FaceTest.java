import java.io.IOException;
import java.lang.reflect.Constructor;
import java.lang.reflect.Field;
import java.lang.reflect.Method;
import java.lang.reflect.Modifier;
import java.nio.file.Files;
import java.nio.file.Path;
import java.util.TreeSet;

/** The public face is the document's, no more and no less (LANGUAGE.md, rule 1). */
public final class FaceTest {
    public static void main(String[] args) throws IOException {
        String doc = Files.readString(Path.of("../shared/DOC.md"));
        String face = doc.substring(doc.indexOf("```java"), doc.indexOf("## Terms"));
        TreeSet<String> want = new TreeSet<>();
        for (String line : face.split("\n")) {
            if (line.startsWith("    public int ")) {
                want.add(line.substring(15, line.indexOf('(')) + types(line));
            }
        }
        TreeSet<String> got = new TreeSet<>();
        TreeSet<String> hidden = new TreeSet<>();
        Class<?> face0 = ConsentDoors.class;
        for (Method m : face0.getDeclaredMethods()) {
            if (Modifier.isPublic(m.getModifiers())) {
                got.add(m.getName() + types(m));
            } else {
                hidden.add(m.getName());
                Check.holds("only public and private: " + m, Modifier.isPrivate(m.getModifiers()));
            }
        }
        Check.holds("67 less the constructor: " + want.size(), want.size() == 66);
        Check.holds("methods " + got + " are " + want, got.equals(want));
        for (String name : want) {
            String bare = name.substring(0, name.indexOf('('));
            Check.holds("no private method is called " + bare, !hidden.contains(bare));
        }
        fields(face0);
        inside(face0, want);
        Check.finish();
    }

    private static void fields(Class<?> face) {
        Check.holds("public and final", Modifier.isPublic(face.getModifiers()) && Modifier.isFinal(face.getModifiers()));
        for (Field f : face.getDeclaredFields()) {
            boolean isPublic = f.getName().equals("NONE");
            Check.holds("NONE alone is public: " + f, isPublic ? Modifier.isPublic(f.getModifiers())
                    : Modifier.isPrivate(f.getModifiers()));
            Check.holds("static is final: " + f, !Modifier.isStatic(f.getModifiers()) || Modifier.isFinal(f.getModifiers()));
        }
        Constructor<?>[] made = face.getDeclaredConstructors();
        Check.holds("one constructor", made.length == 1 && Modifier.isPublic(made[0].getModifiers())
                && made[0].getParameterCount() == 0);
        for (Class<?> inside : face.getDeclaredClasses()) {
            Check.holds("static: " + inside, Modifier.isStatic(inside.getModifiers()));
            Check.holds("not public: " + inside, !Modifier.isPublic(inside.getModifiers()));
        }
        Check.holds("some twelve classes", face.getDeclaredClasses().length <= 11);
        Check.due("NONE", ConsentDoors.NONE, -1);
    }

    // Rules 1 and 11, for the classes inside too.
    private static void inside(Class<?> face, TreeSet<String> want) {
        TreeSet<String> names = new TreeSet<>();
        want.forEach(name -> names.add(name.substring(0, name.indexOf('('))));
        for (Class<?> inside : face.getDeclaredClasses()) {
            for (Method m : inside.getDeclaredMethods()) {
                boolean named = Modifier.isPrivate(m.getModifiers()) && names.contains(m.getName());
                Check.holds("no private method bears the name of a public one: " + m, !named);
            }
            long fields = java.util.Arrays.stream(inside.getDeclaredFields()).filter(f -> !Modifier.isStatic(f.getModifiers())).count();
            Check.holds("some twenty fields: " + inside + " has " + fields, fields <= 20);
        }
    }

    private static String types(String line) {
        String inside = line.substring(line.indexOf('(') + 1, line.indexOf(')'));
        StringBuilder types = new StringBuilder("(");
        for (String parameter : inside.split(",")) {
            types.append(parameter.trim().split(" ")[0]).append(' ');
        }
        return types.toString();
    }

    private static String types(Method m) {
        StringBuilder types = new StringBuilder("(");
        for (Class<?> parameter : m.getParameterTypes()) {
            types.append(parameter.getName()).append(' ');
        }
        return m.getParameterCount() == 0 ? "( " : types.toString();
    }
}
