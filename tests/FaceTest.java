import java.io.IOException;
import java.lang.reflect.Constructor;
import java.lang.reflect.Field;
import java.lang.reflect.Method;
import java.lang.reflect.Modifier;
import java.nio.file.Files;
import java.nio.file.Path;
import java.util.ArrayList;
import java.util.Arrays;
import java.util.List;
import java.util.Set;
import java.util.TreeSet;
import java.util.regex.Matcher;
import java.util.regex.Pattern;

/** The class shows the face that the document prints, and nothing else. */
public final class FaceTest {
    private static final Path DOCUMENT = Path.of("..", "shared", "DOC.md");
    private static final Path SOURCE = Path.of("src", "main", "java", "Ballothall.java");
    private static final int CALLS = 53;
    private static final Pattern DECLARED = Pattern.compile("public (\\w+) (\\w+)\\(([^)]*)\\)( throws [^;]*)?;");
    private static final Pattern SECTION = Pattern.compile(
        "Ahead of the calls ([^:]*) the interface says: ---- ([^\n]*)\\.\n");
    private static final Check check = new Check("FaceTest");

    /** As the document tells it: the types of the parameters, without their names. */
    private static String told(String type, String name, String parameters, String exceptions) {
        return type + " " + name + "(" + parameters.replaceAll("(\\w+) \\w+", "$1") + ")"
            + (exceptions == null ? "" : exceptions);
    }

    private static String told(Method method) {
        List<String> parameters = new ArrayList<>();
        for (Class<?> p : method.getParameterTypes()) {
            parameters.add(p.getSimpleName());
        }
        List<String> exceptions = new ArrayList<>();
        for (Class<?> e : method.getExceptionTypes()) {
            exceptions.add(e.getSimpleName());
        }
        return method.getReturnType().getSimpleName() + " " + method.getName() + "(" + String.join(", ", parameters) + ")"
            + (exceptions.isEmpty() ? "" : " throws " + String.join(", ", exceptions));
    }

    private static Set<String> toldByDocument(String face, String source) {
        Set<String> calls = new TreeSet<>();
        Matcher call = DECLARED.matcher(face);
        while (call.find()) {
            calls.add(told(call.group(1), call.group(2), call.group(3), call.group(4)));
            String words = call.group().replace(";", " {");
            check.same("the program says \"" + words + "\"", source.contains(words), true);
        }
        check.same("the calls of the document", calls.size(), CALLS);
        return calls;
    }

    private static Set<String> lookAtMethods(Class<?> house) {
        Set<String> calls = new TreeSet<>();
        for (Method m : house.getDeclaredMethods()) {
            if (!Modifier.isPrivate(m.getModifiers())) {
                check.same("the modifiers of " + m.getName(), Modifier.toString(m.getModifiers()), "public");
                calls.add(told(m));
            }
        }
        return calls;
    }

    private static void lookAtFields(Class<?> house) throws IllegalAccessException {
        boolean hasNone = false;
        for (Field f : house.getDeclaredFields()) {
            String modifiers = Modifier.toString(f.getModifiers());
            boolean isNone = f.getName().equals("NONE");
            check.same("the field " + f.getName(), isNone ? modifiers : modifiers.startsWith("private"),
                isNone ? "public static final" : true);
            check.same("the static field " + f.getName(), modifiers.contains("static") && !modifiers.contains("final"), false);
            hasNone |= isNone && f.getType() == int.class && f.getInt(null) == -1;
        }
        check.same("NONE is the int -1", hasNone, true);
    }

    private static void lookAtClasses(Class<?> house, Set<String> face) {
        Set<String> names = new TreeSet<>();
        for (String call : face) {
            names.add(call.replaceAll("^\\w+ (\\w+)\\(.*", "$1"));
        }
        List<Class<?>> all = new ArrayList<>(Arrays.asList(house.getDeclaredClasses()));
        check.same("no more than twelve classes", all.size() < 12, true);
        all.add(house);
        for (Class<?> c : all) {
            check.same("static or the house: " + c, c == house || Modifier.isStatic(c.getModifiers()), true);
            check.same("hidden or the house: " + c, c == house || Modifier.isPrivate(c.getModifiers()), true);
            check.same("fields of " + c, Arrays.stream(c.getDeclaredFields())
                .filter(f -> !Modifier.isStatic(f.getModifiers())).count() <= 20, true);
            for (Method m : c.getDeclaredMethods()) {
                boolean isHidden = Modifier.isPrivate(m.getModifiers());
                check.same("the name of a public one: " + m, isHidden && names.contains(m.getName()), false);
                check.same("parameters of " + m, m.getParameterCount() <= 7, true);
                check.same("made by the compiler: " + m, m.isSynthetic(), false);
            }
        }
    }

    /** What the interface says ahead of some calls stands ahead of them in the program as well. */
    private static void lookAtSections(String document, String source) {
        Matcher section = SECTION.matcher(document);
        int sections = 0;
        while (section.find()) {
            sections++;
            int start = source.indexOf("// ---- " + section.group(2) + " public");
            int end = source.indexOf("// ----", start + 1);
            check.same("the program says \"---- " + section.group(2) + "\"", start >= 0 && end > start, true);
            for (String name : section.group(1).replace("`", "").split(",? +")) {
                Matcher call = Pattern.compile("public \\w+ " + name + "\\(").matcher(source);
                check.same(name + "() stands behind it", call.find() && call.start() > start && call.start() < end, true);
            }
        }
        check.same("the sections of the interface", sections, 8);
    }

    public static void main(String[] arguments) throws IOException, IllegalAccessException {
        String document = Files.readString(DOCUMENT);
        String source = Files.readString(SOURCE).replaceAll("\\s+", " ");
        int start = document.indexOf("```java");
        int end = document.indexOf("```", start + 1);
        check.same("the document prints a face", start >= 0 && end > start, true);
        String face = document.substring(start, end);
        Class<?> house = Ballothall.class;
        check.same("its modifiers", Modifier.toString(house.getModifiers()), "public final");
        check.same("its package", house.getPackageName(), "");
        check.same("its parents", house.getSuperclass() + " " + house.getInterfaces().length, Object.class + " 0");
        Set<String> due = toldByDocument(face, source);
        check.same("the methods", String.join("\n", lookAtMethods(house)), String.join("\n", due));
        lookAtFields(house);
        check.same("the constructors", house.getDeclaredConstructors().length, 1);
        Constructor<?> made = house.getDeclaredConstructors()[0];
        check.same("the constructor", Modifier.toString(made.getModifiers()) + made.getParameterCount()
            + made.getExceptionTypes().length, "public00");
        lookAtClasses(house, due);
        lookAtSections(document, source);
        check.end();
    }
}
