import java.io.IOException;
import java.lang.reflect.Constructor;
import java.lang.reflect.Field;
import java.lang.reflect.Method;
import java.lang.reflect.Modifier;
import java.nio.file.Files;
import java.nio.file.Path;
import java.util.Arrays;
import java.util.List;
import java.util.Set;
import java.util.TreeSet;

/** The face of the class, and what LANGUAGE.md says of its text as far as that can be read off it. */
public final class LanguageTest {
    private static final Path SOURCE = Path.of("src/main/java/GloveReply.java");

    private static final List<String> METHODS = List.of(
        "int write(int)", "int wipe()", "int fault()", "int desk()", "int about(int)", "int person(int,int)",
        "int glove(int,int)", "int wear(int,int)", "int takeOff(int)", "int wash(int)", "int day()", "int undo()",
        "int does(int,int,int)", "int comes(int,int,int)", "int rounds(int,int)", "int givesAway(int)",
        "int leftBy(int,int)", "int washes(int,int)", "int both(int,int)", "int either(int,int)",
        "int see(int,int,int)", "int unsee()", "int wore(int,int)", "int bids(int,int,int,int)",
        "int lost(int,int,int,int,boolean)", "long seed(long)", "int weeks(int)", "int keep(int)", "int again(int)");

    public static void main(String[] args) throws IOException {
        methods();
        members();
        classesInside();
        source(Files.readString(SOURCE));
        Due.close("LanguageTest");
    }

    private static void methods() {
        Set<String> found = new TreeSet<>();
        for (Method method : GloveReply.class.getDeclaredMethods()) {
            if (Modifier.isPublic(method.getModifiers())) {
                StringBuilder said = new StringBuilder(method.getReturnType() + " " + method.getName() + "(");
                String comma = "";
                for (Class<?> type : method.getParameterTypes()) {
                    said.append(comma).append(type);
                    comma = ",";
                }
                found.add(said.append(")").toString());
            }
        }
        Due.holds("1 the public methods: " + found, found.equals(new TreeSet<>(METHODS)));
    }

    private static void members() {
        Due.is("UNKNOWN", GloveReply.UNKNOWN, -1);
        Due.is("BAD", GloveReply.BAD, -2);
        Due.is("LATE", GloveReply.LATE, -3);
        Due.is("FULL", GloveReply.FULL, -4);
        Due.is("NONE", GloveReply.NONE, -9);
        Set<String> constants = new TreeSet<>();
        for (Field field : GloveReply.class.getDeclaredFields()) {
            int is = field.getModifiers();
            if (Modifier.isPublic(is)) {
                constants.add(field.getName());
            }
            Due.holds("1 " + field + " is public or private", Modifier.isPublic(is) || Modifier.isPrivate(is));
            Due.holds("5 " + field + " is final if it is static", !Modifier.isStatic(is) || Modifier.isFinal(is));
        }
        Due.holds("1 the constants: " + constants,
            constants.equals(new TreeSet<>(List.of("UNKNOWN", "BAD", "LATE", "FULL", "NONE"))));
        for (Method method : GloveReply.class.getDeclaredMethods()) {
            int is = method.getModifiers();
            Due.holds("1 " + method + " is public or private", Modifier.isPublic(is) || Modifier.isPrivate(is));
        }
        Constructor<?>[] constructors = GloveReply.class.getDeclaredConstructors();
        Due.is("1 constructors", constructors.length, 1);
        Due.is("1 parameters of it", constructors[0].getParameterCount(), 0);
        Due.holds("1 it is public", Modifier.isPublic(constructors[0].getModifiers()));
        Due.holds("1 the class is final", Modifier.isFinal(GloveReply.class.getModifiers()));
    }

    private static void classesInside() {
        Set<String> face = new TreeSet<>();
        METHODS.forEach(said -> face.add(said.substring(said.indexOf(' ') + 1, said.indexOf('('))));
        Class<?>[] inside = GloveReply.class.getDeclaredClasses();
        Due.holds("11 some twelve classes at most", inside.length <= 12);
        for (Class<?> one : inside) {
            Due.holds("1 " + one + " is static", Modifier.isStatic(one.getModifiers()));
            Due.holds("1 " + one + " is not public", !Modifier.isPublic(one.getModifiers()));
            for (Method method : one.getDeclaredMethods()) {
                Due.holds("1 " + method + " has a name of its own", !face.contains(method.getName()));
                Due.holds("11 " + method + " takes seven at most", method.getParameterCount() <= 7);
            }
        }
        Method[] all = GloveReply.class.getDeclaredMethods();
        for (Method method : all) {
            Due.holds("11 " + method + " takes seven at most", method.getParameterCount() <= 7);
            long alike = Arrays.stream(all).filter(other -> other.getName().equals(method.getName())).count();
            Due.is("1 methods named " + method.getName(), alike, 1);
        }
    }

    private static void source(String whole) {
        String text = whole.replaceAll("(?s)/\\*.*?\\*/", "").replaceAll("//[^\n]*", "");
        for (String word : List.of("throw", "throws", "try", "catch", "synchronized", "assert", "import", "package",
            "instanceof", "var", "Object", "Random", "System", "Thread", "Math", "enum", "interface", "equals",
            "hashCode", "toString", "goto", "while")) {
            Due.holds("no word " + word, !text.matches("(?s).*\\b" + word + "\\b.*"));
        }
        for (String sign : List.of("->", "::", "@", "\"", "[][]")) {
            Due.holds("no sign " + sign, !text.contains(sign));
        }
        Due.holds("all signs are 1 to 127", whole.chars().allMatch(c -> c > 0 && c < 128));
        objectsInConstructors(text);
    }

    /** Whatever is made is made in a constructor: in a method no "new" stands. */
    private static void objectsInConstructors(String text) {
        boolean inConstructor = false;
        int made = 0;
        for (String line : text.split("\n")) {
            String bare = line.strip();
            if (bare.endsWith("{") && bare.contains("(") && !bare.startsWith("for") && !bare.startsWith("if")) {
                inConstructor = bare.matches("(public )?[A-Z][A-Za-z]*\\(.*");
            }
            if (bare.matches(".*\\bnew\\b.*")) {
                made++;
                Due.holds("12 made in a constructor: " + bare, inConstructor);
            }
        }
        Due.holds("12 some objects are made", made > 0);
    }
}
