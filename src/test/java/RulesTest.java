import java.io.IOException;
import java.lang.reflect.Constructor;
import java.lang.reflect.Field;
import java.lang.reflect.Method;
import java.lang.reflect.Modifier;
import java.nio.file.Files;
import java.nio.file.Path;
import java.util.ArrayList;
import java.util.HashSet;
import java.util.List;
import java.util.Set;
import java.util.TreeSet;
import java.util.regex.Matcher;
import java.util.regex.Pattern;

/** The face, and those rules of LANGUAGE.md that can be seen in the source and in the class files. */
public final class RulesTest {
    private static final String[] FACE = {
        "int feed(int,int,int,int,int)", "int day(int)", "int fault()", "int where()", "int drive(int,int)",
        "int unload(int)", "boolean tea(int)", "int comes(int)", "int heat(int)", "int bad(int)", "int way(int,int)",
        "int best(int,int)", "int bestAt(int,int,int)", "int share()", "int shared(int)", "long odds(int)",
        "int costs(int)", "int fits(int,int)", "int breach(int,int)", "int forAll()", "int menu(int,int)",
        "int menuAt(int)", "int dropped(int,int)", "long knock()", "int callAt(int)", "long asTold()", "int fill()",
        "int helper(int)", "int sign(int,int)", "int fading(int)", "int probe(int,int,int)", "int faulty(int)",
        "int firstCold()", "int recall(int)", "int led(int,int)", "int size(int)", "int trouble()",
    };
    private static final String[] LEFT_OUT = {"->", "::", "\\btry\\b", "\\bcatch\\b", "\\bfinally\\b",
        "\\bsynchronized\\b", "\\bassert\\b", "\\bdouble\\b", "\\bfloat\\b", "\\bObject\\b", "\\bSystem\\.(?!arraycopy)",
        "Exact\\(", "\\bstatic \\{", "\\bdo \\{", "\\bwhile \\(true", "\\bfor \\(;;", "\\bprotected\\b"};
    private static final Check CHECK = new Check("RulesTest");

    private RulesTest() {
    }

    public static void main(String[] args) throws IOException {
        face();
        insideClasses();
        source(Files.readString(Path.of("src/main/java/NoonMeals.java")));
        CHECK.end();
    }

    private static void face() {
        Set<String> want = new TreeSet<>(Set.of(FACE));
        Set<String> got = new TreeSet<>();
        Set<String> publicNames = new HashSet<>();
        for (Method method : NoonMeals.class.getDeclaredMethods()) {
            if (Modifier.isPublic(method.getModifiers())) {
                got.add(signature(method));
                publicNames.add(method.getName());
            }
        }
        CHECK.due("the face is " + got, true, want.equals(got));
        for (Method method : NoonMeals.class.getDeclaredMethods()) {
            boolean isPublic = Modifier.isPublic(method.getModifiers());
            boolean isPrivate = Modifier.isPrivate(method.getModifiers());
            CHECK.due(method + " is public or private", true, isPublic || isPrivate);
            CHECK.due(method + " bears a name of the face", false, isPrivate && publicNames.contains(method.getName()));
        }
        for (Class<?> inside : NoonMeals.class.getDeclaredClasses()) {
            for (Method method : inside.getDeclaredMethods()) {
                CHECK.due(method + " bears a name of the face", false, publicNames.contains(method.getName()));
            }
        }
        CHECK.due("public fields", 1, NoonMeals.class.getFields().length);
        CHECK.due("modifiers", Modifier.PUBLIC | Modifier.FINAL, NoonMeals.class.getModifiers());
        Constructor<?>[] constructors = NoonMeals.class.getDeclaredConstructors();
        CHECK.due("constructors", 1, constructors.length);
        CHECK.due("a public constructor", true, Modifier.isPublic(constructors[0].getModifiers()));
    }

    private static String signature(Method method) {
        StringBuilder text = new StringBuilder(method.getReturnType() + " " + method.getName() + "(");
        for (Class<?> parameter : method.getParameterTypes()) {
            text.append(text.charAt(text.length() - 1) == '(' ? "" : ",").append(parameter);
        }
        return text + ")";
    }

    private static void insideClasses() {
        List<Class<?>> classes = new ArrayList<>(List.of(NoonMeals.class.getDeclaredClasses()));
        for (Class<?> inside : classes) {
            CHECK.due(inside + " is static", true, Modifier.isStatic(inside.getModifiers()));
            CHECK.due(inside + " is private", true, Modifier.isPrivate(inside.getModifiers()));
        }
        classes.add(NoonMeals.class);
        CHECK.due("at most twelve classes", true, classes.size() <= 12);
        for (Class<?> each : classes) {
            int fields = 0;
            for (Field field : each.getDeclaredFields()) {
                boolean isStatic = Modifier.isStatic(field.getModifiers());
                boolean isFinal = Modifier.isFinal(field.getModifiers());
                boolean isOpen = Modifier.isPublic(field.getModifiers()) && !field.getName().equals("NONE");
                fields += isStatic ? 0 : 1;
                CHECK.due(field + " is static and can be changed", false, isStatic && !isFinal);
                CHECK.due(field + " is open", false, isOpen);
            }
            CHECK.due("at most twenty fields in " + each, true, fields <= 20);
            for (Method method : each.getDeclaredMethods()) {
                CHECK.due("at most seven parameters of " + method, true, method.getParameterCount() <= 7);
            }
        }
    }

    private static void source(String whole) {
        String code = whole.replaceAll("(?s)/\\*.*?\\*/", "").replaceAll("//[^\n]*", "");
        for (String rule : LEFT_OUT) {
            CHECK.due("the source has " + rule, false, Pattern.compile(rule).matcher(code).find());
        }
        Matcher imports = Pattern.compile("import ([\\w.]+);").matcher(code);
        while (imports.find()) {
            boolean listed = List.of("java.util.Arrays", "java.util.NoSuchElementException").contains(imports.group(1));
            CHECK.due("import of " + imports.group(1) + " is listed", true, listed);
        }
        recursion(code);
        int opened = -1;
        String[] lines = code.split("\n");
        for (int i = 0; i < lines.length; i++) {
            String line = lines[i];
            // Only fields make something new, once for each object: no call makes more.
            boolean isField = line.matches(" +private (final )?[\\w\\[\\]]+ \\w+ = new .*;");
            boolean isThrow = line.trim().startsWith("throw new ");
            CHECK.due("something new is made by: " + line, false, line.contains("new ") && !isField && !isThrow);
            if (line.matches(" {4}( {4})?\\S.*\\) (throws \\w+ )?\\{")) {
                opened = i;
            } else if (line.matches(" {4}( {4})?\\}") && opened >= 0) {
                CHECK.due("at most sixty lines: " + lines[opened], true, i - opened <= 60);
                opened = -1;
            }
        }
    }

    /** A method that calls itself is private and static. */
    private static void recursion(String code) {
        Matcher methods = Pattern.compile("(?ms)^( +)([\\w\\[\\] ]+) (\\w+)\\([^)]*\\) (throws \\w+ )?\\{\n(.*?)^\\1\\}$")
                .matcher(code);
        int read = 0;
        while (methods.find()) {
            Matcher ownCall = Pattern.compile("(?<![.\\w])" + methods.group(3) + "\\(").matcher(methods.group(5));
            boolean isOpenToIt = methods.group(2).startsWith("private static ");
            CHECK.due(methods.group(3) + " calls itself", false, ownCall.find() && !isOpenToIt);
            read++;
        }
        int methodsThere = NoonMeals.class.getDeclaredMethods().length + 1;
        for (Class<?> inside : NoonMeals.class.getDeclaredClasses()) {
            methodsThere += inside.getDeclaredMethods().length;
        }
        CHECK.due("methods that were read, with the constructor", methodsThere, read);
    }
}
