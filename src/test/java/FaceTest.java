import java.io.IOException;
import java.lang.reflect.Constructor;
import java.lang.reflect.Field;
import java.lang.reflect.Method;
import java.lang.reflect.Modifier;
import java.nio.file.Files;
import java.nio.file.Path;
import java.util.ArrayList;
import java.util.Arrays;
import java.util.List;
import java.util.Set;
import java.util.TreeSet;
import java.util.regex.Matcher;
import java.util.regex.Pattern;

/** The public face, as the document has it, and what LANGUAGE.md rules out and a look at the file can tell. */
public final class FaceTest {
    private static final String ROOT = System.getProperty("project", ".");
    private static final Check check = new Check();

    private static final String[] METHODS = {
        "int write(int,long)", "int wipe()", "int fault()", "int lay()", "int body(int,int,int,int,int,int)",
        "int hang(int,int,int)", "int level(int,int,int)", "int push(int,int,int,int)", "int bears(int,int,int)",
        "int press(int,int,int)", "int slack(int)", "int fits(int,int,int,int)", "int share(int,int)",
        "int setting(int,int)", "int fewest(int)", "int law(int,int)", "int hours(int,int,int)",
        "int stops(int,int,int,int,int)", "int road(int,int,int)", "int through(int,int,int,int)",
        "long dose(int,int,int,int,int,int)", "int years(int,int,int,int)", "int worn(int,int)",
        "int until(int,int,int,int)", "int trial(int,int,int)", "int against(int,int,int)", "int score(int,int)",
        "int count(int)",
    };

    public static void main(String[] args) throws IOException {
        face();
        faceOfTheDocument();
        insideClasses();
        shapes();
        source();
        check.end("FaceTest");
    }

    private static void face() {
        Class<?> c = LongSeats.class;
        check.isTrue("public and final", Modifier.isPublic(c.getModifiers()) && Modifier.isFinal(c.getModifiers()));
        Set<String> seen = new TreeSet<>();
        for (Method m : c.getDeclaredMethods()) {
            if (!Modifier.isPrivate(m.getModifiers())) {
                String types = Arrays.toString(m.getParameterTypes()).replaceAll("[\\[\\] ]", "");
                seen.add(m.getReturnType() + " " + m.getName() + "(" + types + ")");
                check.isTrue(m + " is public", Modifier.isPublic(m.getModifiers()));
            }
        }
        check.isTrue("the methods of the face: " + seen, seen.equals(new TreeSet<>(Arrays.asList(METHODS))));
        Constructor<?>[] made = c.getDeclaredConstructors();
        check.isTrue("one public constructor", made.length == 1 && made[0].getParameterCount() == 0
                && Modifier.isPublic(made[0].getModifiers()));
        Set<String> fields = new TreeSet<>();
        for (Field f : c.getDeclaredFields()) {
            if (!Modifier.isPrivate(f.getModifiers())) {
                fields.add(f.getName());
            }
        }
        check.isTrue("the constants of the face", fields.equals(Set.of("BAD", "NO", "FULL", "NONE")));
    }

    private static void faceOfTheDocument() throws IOException {
        String document = Files.readString(Path.of(ROOT, "../shared/DOC.md"));
        Set<String> told = new TreeSet<>();
        Matcher call = Pattern.compile("    public (\\w+ \\w+\\(.*\\));\n").matcher(document);
        while (call.find()) {
            told.add(call.group(1).replaceAll("(int|long) \\w+(?=[,)])", "$1").replace(", ", ","));
        }
        check.isTrue("the document's face: " + told, told.equals(new TreeSet<>(Arrays.asList(METHODS))));
    }

    private static void insideClasses() {
        Set<String> names = new TreeSet<>();
        for (String method : METHODS) {
            names.add(method.replaceAll("^\\w+ |\\(.*", ""));
        }
        Class<?>[] inside = LongSeats.class.getDeclaredClasses();
        check.isTrue("twelve classes at most", inside.length <= 11);
        for (Class<?> c : inside) {
            check.isTrue(c + " is static", Modifier.isStatic(c.getModifiers()));
            for (Method m : c.getDeclaredMethods()) {
                check.isTrue(m + " has a name of its own", !names.contains(m.getName()));
            }
        }
        for (Method m : LongSeats.class.getDeclaredMethods()) {
            boolean hidden = Modifier.isPrivate(m.getModifiers());
            check.isTrue(m + " has a name of its own", !hidden || !names.contains(m.getName()));
        }
    }

    /** Rules 5 and 11: static fields are constants, few parameters, few fields. */
    private static void shapes() {
        List<Class<?>> all = new ArrayList<>(Arrays.asList(LongSeats.class.getDeclaredClasses()));
        all.add(LongSeats.class);
        Set<Class<?>> constants = Set.of(int.class, long.class, boolean.class, char.class, String.class,
                int[].class, long[].class, char[].class, byte[].class);
        for (Class<?> c : all) {
            int own = 0;
            for (Field f : c.getDeclaredFields()) {
                if (Modifier.isStatic(f.getModifiers())) {
                    check.isTrue(f + " is a constant", Modifier.isFinal(f.getModifiers())
                            && constants.contains(f.getType()));
                } else {
                    own++;
                }
            }
            check.isTrue(c + " has twenty fields at most", own <= 20);
            for (Method m : c.getDeclaredMethods()) {
                check.isTrue(m + " takes seven at most", m.getParameterCount() <= 7);
            }
        }
    }

    private static void source() throws IOException {
        String code = Files.readString(Path.of(ROOT, "src/main/java/LongSeats.java"))
                .replaceAll("(?s)/\\*.*?\\*/", "").replaceAll("//[^\n]*", "");
        String[] ruledOut = {"throw", "throws", "try", "catch", "synchronized", "assert", "import", "package", "->",
            "::", "Exact", "System", "Thread", "Object", "protected", "equals", "hashCode", "toString"};
        for (String word : ruledOut) {
            String edge = Character.isLowerCase(word.charAt(0)) ? "\\b" : "";
            boolean found = Pattern.compile(edge + Pattern.quote(word) + edge).matcher(code).find();
            check.isTrue("no " + word, !found);
        }
    }
}
