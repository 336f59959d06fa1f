import java.lang.reflect.Constructor;
import java.lang.reflect.Field;
import java.lang.reflect.Member;
import java.lang.reflect.Method;
import java.lang.reflect.Modifier;
import java.nio.file.Files;
import java.nio.file.Path;
import java.util.ArrayList;
import java.util.Arrays;
import java.util.List;
import java.util.Set;
import java.util.TreeSet;
import java.util.regex.Matcher;
import java.util.regex.Pattern;

/** The face of MirrorFerry is the one that ../shared/DOC.md gives, and nothing else shows. */
public final class FaceTest {
    private static final Path DOCUMENT = Path.of("../shared/DOC.md");
    private static final Path SOURCE = Path.of("src/main/java/MirrorFerry.java");
    private static final Pattern FACE = Pattern.compile("    public (\\w+ \\w+\\(.*\\)[^;]*);");
    private static final Pattern SECTION = Pattern.compile("Ahead of the calls (.*) the interface says: ---- (.*)\\.");
    private static final Pattern HEADING = Pattern.compile("    // ---- (.*)");
    private static final Pattern CALL = Pattern.compile("    public \\w+ (\\w+)\\(.*");

    private static int wrong;

    public static void main(String[] args) throws Exception {
        due("modifiers", MirrorFerry.class.getModifiers(), Modifier.PUBLIC | Modifier.FINAL);
        due("methods", methodsOfClass(), methodsOfDocument());
        due("sections", sectionsOfSource(), sectionsOfDocument());
        constructors();
        members();
        System.out.println(wrong == 0 ? "the face is that of the document" : "the face is not that of the document");
        System.exit(wrong == 0 ? 0 : 1);
    }

    private static void due(String what, Object got, Object want) {
        if (!want.equals(got)) {
            wrong++;
            System.out.println(what + ": " + got + ", due is " + want);
        }
    }

    private static Set<String> methodsOfDocument() throws Exception {
        Set<String> methods = new TreeSet<>();
        for (String line : Files.readAllLines(DOCUMENT)) {
            Matcher matcher = FACE.matcher(line);
            if (matcher.matches()) {
                methods.add(matcher.group(1).replaceAll("(int|char) \\w+(?=[,)])", "$1"));
            }
        }
        due("methods in the document", methods.isEmpty(), false);
        return methods;
    }

    private static Set<String> methodsOfClass() {
        Set<String> methods = new TreeSet<>();
        for (Method method : MirrorFerry.class.getDeclaredMethods()) {
            if (!Modifier.isPrivate(method.getModifiers()) && !method.isSynthetic()) {
                String throwing = names(method.getExceptionTypes());
                methods.add(method.getReturnType().getSimpleName() + " " + method.getName() + "("
                        + names(method.getParameterTypes()) + ")" + (throwing.isEmpty() ? "" : " throws " + throwing));
            }
        }
        return methods;
    }

    private static String names(Class<?>[] types) {
        List<String> names = new ArrayList<>();
        for (Class<?> type : types) {
            names.add(type.getSimpleName());
        }
        return String.join(", ", names);
    }

    /** The headings that stand ahead of the calls, with the calls below them, both in their order. */
    private static List<String> sectionsOfDocument() throws Exception {
        List<String> sections = new ArrayList<>();
        for (String line : Files.readAllLines(DOCUMENT)) {
            Matcher matcher = SECTION.matcher(line);
            if (matcher.matches()) {
                sections.add(matcher.group(2) + ": " + matcher.group(1).replace("`", ""));
            }
        }
        due("sections in the document", sections.isEmpty(), false);
        return sections;
    }

    private static List<String> sectionsOfSource() throws Exception {
        List<String> sections = new ArrayList<>();
        String heading = "no heading";
        List<String> calls = new ArrayList<>();
        for (String line : Files.readAllLines(SOURCE)) {
            Matcher next = HEADING.matcher(line);
            Matcher call = CALL.matcher(line);
            if (call.matches()) {
                calls.add(call.group(1));
            }
            if (next.matches()) {
                addSection(sections, heading, calls);
                heading = next.group(1);
                calls.clear();
            }
        }
        addSection(sections, heading, calls);
        return sections;
    }

    private static void addSection(List<String> sections, String heading, List<String> calls) {
        if (!calls.isEmpty()) {
            sections.add(heading + ": " + String.join(", ", calls));
        }
    }

    private static void constructors() {
        Constructor<?>[] constructors = MirrorFerry.class.getDeclaredConstructors();
        due("constructors", Arrays.toString(constructors), "[public MirrorFerry()]");
    }

    private static void members() {
        Set<String> faceNames = new TreeSet<>();
        for (Method method : MirrorFerry.class.getMethods()) {
            faceNames.add(method.getName());
        }
        for (Field field : MirrorFerry.class.getDeclaredFields()) {
            due(field.toString(), isHidden(field), true);
        }
        for (Class<?> inner : MirrorFerry.class.getDeclaredClasses()) {
            due(inner + " is static", Modifier.isStatic(inner.getModifiers()), true);
            due(inner + " is public", Modifier.isPublic(inner.getModifiers()), false);
            for (Method method : inner.getDeclaredMethods()) {
                due(method + " has a name of the face", faceNames.contains(method.getName()), false);
            }
        }
        for (Method method : MirrorFerry.class.getDeclaredMethods()) {
            boolean hidden = isHidden(method);
            due(method + " has a name of the face", faceNames.contains(method.getName()), !hidden);
        }
    }

    private static boolean isHidden(Member member) {
        return Modifier.isPrivate(member.getModifiers()) || member.isSynthetic();
    }
}
