import java.io.IOException;
import java.lang.reflect.Constructor;
import java.lang.reflect.Field;
import java.lang.reflect.Member;
import java.lang.reflect.Method;
import java.lang.reflect.Modifier;
import java.nio.file.Files;
import java.nio.file.Path;
import java.util.ArrayList;
import java.util.HashSet;
import java.util.List;
import java.util.Set;
import java.util.TreeSet;
import java.util.regex.Matcher;
import java.util.regex.Pattern;

/** The document's face, member by member, and what can be seen of the language's rules in the source. */
public final class FaceTest {
    private static final Path DOCUMENT = Path.of("../shared/DOC.md");
    private static final Path SOURCE = Path.of("src/main/java/MealAccounts.java");
    private static int wrong;

    private FaceTest() {
    }

    public static void main(String[] args) throws IOException {
        face();
        constant();
        noNameTwice();
        nestedClasses();
        sizes();
        source();
        System.exit(wrong == 0 ? 0 : 1);
    }

    private static void test(boolean isFine, String fault) {
        if (!isFine) {
            wrong++;
            System.out.println("face: " + fault);
        }
    }

    /** The lines between the braces of the face in the document are the members that are not private. */
    private static void face() throws IOException {
        Set<String> due = new TreeSet<>();
        String document = Files.readString(DOCUMENT);
        Matcher line = Pattern.compile("(?m)^    (public [^;]*);").matcher(document);
        while (line.find()) {
            due.add(line.group(1).replaceAll("( throws .*| = .*)", "").replaceAll("(int|long|boolean) [a-z]+([,)])", "$1$2"));
        }
        Set<String> got = new TreeSet<>();
        Class<MealAccounts> type = MealAccounts.class;
        for (Constructor<?> member : type.getDeclaredConstructors()) {
            addFace(got, member, "MealAccounts" + parameters(member.getParameterTypes()));
        }
        for (Method member : type.getDeclaredMethods()) {
            addFace(got, member, member.getReturnType() + " " + member.getName() + parameters(member.getParameterTypes()));
        }
        for (Field member : type.getDeclaredFields()) {
            addFace(got, member, member.getType() + " " + member.getName());
        }
        test(due.size() == 32, "the document's face was not read: " + due);
        test(got.equals(due), "is " + got + ", due is " + due);
        test(Modifier.toString(type.getModifiers()).equals("public final"), "the class is public and final");
    }

    private static void addFace(Set<String> members, Member member, String text) {
        if (!Modifier.isPrivate(member.getModifiers()) && !member.isSynthetic()) {
            members.add(Modifier.toString(member.getModifiers()) + " " + text);
        }
    }

    private static String parameters(Class<?>[] types) {
        List<String> names = new ArrayList<>();
        for (Class<?> type : types) {
            names.add(type.toString());
        }
        return "(" + String.join(", ", names) + ")";
    }

    private static void constant() {
        test(MealAccounts.NONE == -1, "NONE is -1");
    }

    private static void noNameTwice() {
        Set<String> names = new HashSet<>();
        for (Method method : MealAccounts.class.getDeclaredMethods()) {
            test(names.add(method.getName()), method.getName() + " is the name of two methods");
        }
    }

    private static void nestedClasses() {
        Set<String> face = new HashSet<>();
        for (Method method : MealAccounts.class.getDeclaredMethods()) {
            if (Modifier.isPublic(method.getModifiers())) {
                face.add(method.getName());
            }
        }
        for (Class<?> nested : MealAccounts.class.getDeclaredClasses()) {
            int modifiers = nested.getModifiers();
            boolean isInside = !Modifier.isPublic(modifiers) && !Modifier.isProtected(modifiers);
            test(isInside && Modifier.isStatic(modifiers), nested + " is private or package-visible, and static");
            for (Field field : nested.getDeclaredFields()) {
                boolean isChanging = Modifier.isStatic(field.getModifiers()) && !Modifier.isFinal(field.getModifiers());
                test(!isChanging, field + " is static and not final");
            }
            for (Method method : nested.getDeclaredMethods()) {
                test(!face.contains(method.getName()), method + " bears a name of the face");
            }
        }
    }

    /** Rule 11. */
    private static void sizes() {
        List<Class<?>> classes = new ArrayList<>(List.of(MealAccounts.class.getDeclaredClasses()));
        classes.add(MealAccounts.class);
        test(classes.size() <= 12, "there are more than 12 classes");
        for (Class<?> type : classes) {
            int fields = 0;
            for (Field field : type.getDeclaredFields()) {
                fields += Modifier.isStatic(field.getModifiers()) ? 0 : 1;
            }
            test(fields <= 20, type + " has more than 20 fields");
            for (Method method : type.getDeclaredMethods()) {
                test(method.getParameterCount() <= 7, method + " has more than 7 parameters");
            }
        }
    }

    private static void source() throws IOException {
        String source = Files.readString(SOURCE).replaceAll("(?s)/\\*.*?\\*/|//[^\n]*", "");
        String library = "java\\.util\\.(Arrays|ArrayList|List|Iterator|NoSuchElementException);";
        String exceptions = "(IllegalState|IllegalArgument|IndexOutOfBounds|Arithmetic|UnsupportedOperation|NoSuchElement|Runtime)"
                + "Exception\\b";
        String[] ruledOut = {"\\bimport (?!" + library + ")", "\\bthrow (?!new " + exceptions + ")",
            "\\bcatch \\((?!" + exceptions + ")", "(?m)^(?!\\s*(case|default)\\b).*->", "::", "\\bfinally\\b",
            "\\bsynchronized\\b", "\\bassert\\b", "\\bpackage\\b", "Exact\\b", "\\bSystem\\.(?!arraycopy)",
            "static \\{", "[^\\x00-\\x7f]"};
        for (String pattern : ruledOut) {
            test(!Pattern.compile(pattern).matcher(source).find(), "the source has " + pattern);
        }
    }
}
