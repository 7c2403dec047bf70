import java.io.IOException;
import java.lang.reflect.Constructor;
import java.lang.reflect.Field;
import java.lang.reflect.Method;
import java.lang.reflect.Modifier;
import java.nio.file.Files;
import java.nio.file.Path;
import java.util.Arrays;
import java.util.List;
import java.util.Set;
import java.util.TreeSet;

/** The face of the class, and what LANGUAGE.md rules out as far as that can be read off the class or its text. */
public final class LanguageTest {
    private static final Path SOURCE = Path.of("src/main/java/GloveReply.java");

    private static final List<String> METHODS = List.of(
        "int write(int)", "int wipe()", "int fault()", "int desk()", "int about(int)", "int person(int,int)",
        "int glove(int,int)", "int wear(int,int)", "int takeOff(int)", "int wash(int)", "int day()", "int undo()",
        "int does(int,int,int)", "int comes(int,int,int)", "int rounds(int,int)", "int givesAway(int)",
        "int leftBy(int,int)", "int washes(int,int)", "int both(int,int)", "int either(int,int)",
        "int see(int,int,int)", "int unsee()", "int wore(int,int)", "int bids(int,int,int,int)",
        "int lost(int,int,int,int,boolean)", "long seed(long)", "int weeks(int)", "int keep(int)", "int again(int)");

    public static void main(String[] args) throws IOException {
        methods();
        constants();
        members();
        classesInside();
        source(Files.readString(SOURCE));
        Due.close("LanguageTest");
    }

    private static void methods() {
        Set<String> found = new TreeSet<>();
        for (Method method : GloveReply.class.getDeclaredMethods()) {
            if (Modifier.isPublic(method.getModifiers())) {
                StringBuilder said = new StringBuilder(method.getReturnType() + " " + method.getName() + "(");
                String comma = "";
                for (Class<?> type : method.getParameterTypes()) {
                    said.append(comma).append(type);
                    comma = ",";
                }
                found.add(said.append(")").toString());
                Due.holds("1 " + method + " is of an object", !Modifier.isStatic(method.getModifiers()));
            }
        }
        Due.holds("1 the public methods: " + found, found.equals(new TreeSet<>(METHODS)));
    }

    private static void constants() {
        Due.is("UNKNOWN", GloveReply.UNKNOWN, -1);
        Due.is("BAD", GloveReply.BAD, -2);
        Due.is("LATE", GloveReply.LATE, -3);
        Due.is("FULL", GloveReply.FULL, -4);
        Due.is("NONE", GloveReply.NONE, -9);
        Set<String> found = new TreeSet<>();
        for (Field field : GloveReply.class.getDeclaredFields()) {
            int is = field.getModifiers();
            if (Modifier.isPublic(is)) {
                found.add(field.getName());
                Due.holds("1 " + field + " is a constant", Modifier.isStatic(is) && Modifier.isFinal(is));
                Due.holds("1 " + field + " is an int", field.getType() == int.class);
            }
        }
        Due.holds("1 the constants: " + found, found.equals(Set.of("UNKNOWN", "BAD", "LATE", "FULL", "NONE")));
    }

    private static void members() {
        for (Field field : GloveReply.class.getDeclaredFields()) {
            int is = field.getModifiers();
            Due.holds("1 " + field + " is public or private",
                field.isSynthetic() || Modifier.isPublic(is) || Modifier.isPrivate(is));
        }
        Method[] all = GloveReply.class.getDeclaredMethods();
        for (Method method : all) {
            int is = method.getModifiers();
            Due.holds("1 " + method + " is public or private",
                method.isSynthetic() || Modifier.isPublic(is) || Modifier.isPrivate(is));
            boolean ofFace = Arrays.stream(all)
                .anyMatch(other -> Modifier.isPublic(other.getModifiers()) && other.getName().equals(method.getName()));
            Due.holds("1 " + method + " has a name of its own", Modifier.isPublic(is) || !ofFace);
        }
        Constructor<?>[] constructors = GloveReply.class.getDeclaredConstructors();
        Due.is("1 constructors", constructors.length, 1);
        Due.is("1 parameters of it", constructors[0].getParameterCount(), 0);
        Due.holds("1 it is public", Modifier.isPublic(constructors[0].getModifiers()));
        Due.holds("1 the class is final", Modifier.isFinal(GloveReply.class.getModifiers()));
        Due.holds("1 the class is public", Modifier.isPublic(GloveReply.class.getModifiers()));
        fieldsAndParameters(GloveReply.class);
    }

    private static void classesInside() {
        Class<?>[] inside = GloveReply.class.getDeclaredClasses();
        Due.holds("11 some twelve classes", inside.length <= 14);
        for (Class<?> one : inside) {
            int is = one.getModifiers();
            Due.holds("1 " + one + " is static", Modifier.isStatic(is));
            Due.holds("1 " + one + " is private or package-visible", !Modifier.isPublic(is) && !Modifier.isProtected(is));
            fieldsAndParameters(one);
        }
    }

    private static void fieldsAndParameters(Class<?> one) {
        int ofAnObject = 0;
        for (Field field : one.getDeclaredFields()) {
            int is = field.getModifiers();
            Due.holds("5 " + field + " is final if it is static", !Modifier.isStatic(is) || Modifier.isFinal(is));
            ofAnObject += Modifier.isStatic(is) ? 0 : 1;
        }
        Due.holds("11 some twenty fields in " + one, ofAnObject <= 24);
        for (Method method : one.getDeclaredMethods()) {
            Due.holds("11 " + method + " takes seven at most", method.getParameterCount() <= 7);
        }
        for (Constructor<?> constructor : one.getDeclaredConstructors()) {
            Due.holds("11 " + constructor + " takes seven at most", constructor.getParameterCount() <= 7);
        }
    }

    private static void source(String whole) {
        String text = whole.replaceAll("(?s)/\\*.*?\\*/", "").replaceAll("//[^\n]*", "").replaceAll("\"[^\"\n]*\"", "");
        for (String word : List.of("throw", "throws", "try", "catch", "finally", "synchronized", "assert", "package",
            "hashCode", "Random", "Thread", "Runtime", "Process", "File", "Files", "Scanner", "Clock", "Instant",
            "currentTimeMillis", "nanoTime", "getenv", "getProperty", "identityHashCode", "Exception", "Throwable")) {
            Due.holds("no word " + word, !text.matches("(?s).*\\b" + word + "\\b.*"));
        }
        Due.holds("4 none whose name ends in Exact", !text.matches("(?s).*\\w+Exact\\b.*"));
        Due.holds("4 nothing of System but arraycopy", !text.matches("(?s).*\\bSystem\\s*\\.(?!\\s*arraycopy\\b).*"));
        Due.holds("5 no static initialiser block", !text.matches("(?s).*\\bstatic\\s*\\{.*"));
        Due.holds("2 no method reference", !text.contains("::"));
        String behindCases = text.replaceAll("(?s)\\b(case\\b[^:;{}]*?|default\\s*)->", "");
        Due.holds("2 no lambda", !behindCases.contains("->"));
        Due.holds("4 all signs are 1 to 127", text.chars().allMatch(c -> c > 0 && c < 128));
    }
}
