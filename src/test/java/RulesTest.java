import java.lang.reflect.Constructor;
import java.lang.reflect.Field;
import java.lang.reflect.Member;
import java.lang.reflect.Method;
import java.lang.reflect.Modifier;
import java.nio.file.Files;
import java.nio.file.Path;
import java.util.Arrays;
import java.util.HashSet;
import java.util.Set;
import java.util.TreeSet;
import java.util.regex.Matcher;
import java.util.regex.Pattern;

/** The rules of ../shared/LANGUAGE.md as far as the source and the compiled class show them. */
public final class RulesTest {
    private static int wrong = 0;

    private static void need(boolean holds, String what) {
        if (holds) return;
        wrong++;
        System.out.println("rule broken: " + what);
    }

    private static String withoutCommentsAndTexts(String source) {
        return source.replaceAll("(?s)/\\*.*?\\*/", "").replaceAll("//[^\n]*", "")
            .replaceAll("\"(\\\\.|[^\"\\\\])*\"", "\"\"").replaceAll("'(\\\\.|[^'\\\\])'", "' '");
    }

    private static void words(String code) {
        String[] barred = {"throw", "throws", "try", "catch", "synchronized", "assert", "import", "package", "protected",
            "Object", "Thread", "Random", "Exception", "hashCode", "toString", "null", "native", "volatile", "transient"};
        for (String word : barred) {
            need(!Pattern.compile("\\b" + word + "\\b").matcher(code).find(), "no " + word);
        }
        need(!code.contains("->") && !code.contains("::"), "no lambda, no method reference");
        need(!Pattern.compile("static\\s*\\{").matcher(code).find(), "no static block");
        need(!Pattern.compile("[Ee]xact\\(").matcher(code).find(), "none whose name ends in Exact");
        Matcher classes = Pattern.compile("\\bclass\\s+(\\w+)").matcher(code);
        int count = 0;
        while (classes.find()) count++;
        need(count <= 12, "at most twelve classes");
        need(code.chars().allMatch(c -> c < 128), "signs 1 to 127");
    }

    private static void methods(String code) {
        Pattern start = Pattern.compile("^ {4,8}(?:public |private |static |final )*[\\w\\[\\]]+ ?\\w*\\(([^)]*)\\) \\{$");
        String[] lines = code.split("\n");
        for (int i = 0; i < lines.length; i++) {
            Matcher m = start.matcher(lines[i]);
            if (!m.find()) continue;
            String indent = lines[i].substring(0, lines[i].indexOf(lines[i].trim()));
            int end = i;
            while (!lines[end].equals(indent + "}")) end++;
            need(end - i <= 60, "a short method at line " + (i + 1));
            need(m.group(1).split(",").length <= 7, "seven parameters at line " + (i + 1));
        }
    }

    private static String shape(Method m) {
        String types = String.join(",", Arrays.stream(m.getParameterTypes()).map(Class::getName).toList());
        return m.getReturnType().getName() + " " + m.getName() + "(" + types + ")";
    }

    private static void face(String document) {
        Set<String> want = new TreeSet<>();
        Set<String> names = new HashSet<>();
        Matcher m = Pattern.compile("    public int (\\w+)\\(([^)]*)\\);").matcher(document);
        while (m.find()) {
            want.add("int " + m.group(1) + "(" + m.group(2).replaceAll("int \\w+", "int").replace(", ", ",") + ")");
            names.add(m.group(1));
        }
        Set<String> got = new TreeSet<>();
        for (Method method : TurnedHeadings.class.getDeclaredMethods()) {
            if (Modifier.isPublic(method.getModifiers())) {
                got.add(shape(method));
                need(method.getModifiers() == Modifier.PUBLIC, "a method of an object " + method.getName());
                need(method.getExceptionTypes().length == 0, "throws nothing " + method.getName());
            } else {
                privateOne(method, names);
            }
        }
        need(want.size() == 52, "52 methods in the document's face");
        need(got.equals(want), "the face: " + got);
        for (Field field : TurnedHeadings.class.getDeclaredFields()) {
            boolean shown = Modifier.isPublic(field.getModifiers());
            need(shown == field.getName().equals("NONE"), "fields are private but NONE: " + field.getName());
            if (!shown) need(Modifier.isPrivate(field.getModifiers()), "a private field " + field.getName());
        }
        form(document);
        for (Class<?> inside : TurnedHeadings.class.getDeclaredClasses()) inner(inside, names);
    }

    /** The class, its constant and its constructor. */
    private static void form(String document) {
        int seen = Modifier.PUBLIC | Modifier.FINAL;
        need(document.contains("public final class TurnedHeadings {"), "the class as the document tells it");
        need(TurnedHeadings.class.getModifiers() == seen, "a public final class");
        need(TurnedHeadings.class.getSuperclass() == Object.class, "no class above it");
        need(TurnedHeadings.class.getInterfaces().length == 0, "no interface");
        need(TurnedHeadings.class.getPackageName().isEmpty(), "no package");
        need(TurnedHeadings.class.getClasses().length == 0, "no public class inside");
        need(document.contains("    public static final int NONE = -1;"), "the constant as the document tells it");
        Field[] shown = TurnedHeadings.class.getFields();
        need(shown.length == 1 && shown[0].getModifiers() == (seen | Modifier.STATIC) && shown[0].getType() == int.class, "NONE's form");
        need(TurnedHeadings.NONE == -1, "NONE is -1");
        need(document.contains("    public TurnedHeadings();"), "the constructor as the document tells it");
        Constructor<?>[] made = TurnedHeadings.class.getDeclaredConstructors();
        need(made.length == 1 && made[0].getModifiers() == Modifier.PUBLIC && made[0].getParameterCount() == 0, "one constructor");
    }

    private static void privateOne(Member method, Set<String> names) {
        need(Modifier.isPrivate(method.getModifiers()), "a private method " + method.getName());
        need(!names.contains(method.getName()), "no private method with a public one's name: " + method.getName());
    }

    private static void inner(Class<?> inside, Set<String> names) {
        need(Modifier.isStatic(inside.getModifiers()), "a static class " + inside.getName());
        need(!Modifier.isProtected(inside.getModifiers()), "private or package-visible " + inside.getName());
        int fields = 0;
        for (Field field : inside.getDeclaredFields()) {
            if (!Modifier.isStatic(field.getModifiers())) fields++;
            else need(Modifier.isFinal(field.getModifiers()), "a static field is final " + field.getName());
        }
        need(fields <= 20, "twenty fields in " + inside.getName());
        for (Method method : inside.getDeclaredMethods()) {
            need(!names.contains(method.getName()), "no method inside with a public one's name: " + method.getName());
        }
    }

    public static void main(String[] args) throws Exception {
        String code = withoutCommentsAndTexts(Files.readString(Path.of("src/main/java/TurnedHeadings.java")));
        words(code);
        methods(code);
        face(Files.readString(Path.of("../shared/DOC.md")));
        System.out.println(wrong == 0 ? "RulesTest: the rules hold" : wrong + " rules are broken");
        if (wrong != 0) System.exit(1);
    }
}
