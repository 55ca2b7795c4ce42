import java.io.IOException;
import java.lang.reflect.Constructor;
import java.lang.reflect.Field;
import java.lang.reflect.Method;
import java.lang.reflect.Modifier;
import java.nio.file.Files;
import java.nio.file.Path;
import java.util.ArrayList;
import java.util.Arrays;
import java.util.List;
import java.util.TreeSet;
import java.util.regex.Matcher;
import java.util.regex.Pattern;

/** The class has the face of the document, and nothing else of it can be seen from outside. */
public final class FaceTest {
    private static final List<String> FACE = List.of(
        "GoalDesk()",
        "int type(long) IllegalArgumentException IllegalStateException",
        "int add() IllegalArgumentException IllegalStateException",
        "void drop(int) IllegalArgumentException",
        "int ask() IllegalArgumentException NoSuchElementException IllegalStateException UnsupportedOperationException",
        "int next() NoSuchElementException IllegalStateException UnsupportedOperationException",
        "int letter(int,int) IllegalArgumentException NoSuchElementException",
        "int sleeping(int) IllegalArgumentException",
        "int count(int)");

    private static final Path DOCUMENT = Path.of("..", "shared", "DOC.md");
    private static final Pattern MEMBER = Pattern.compile("    public (.*?)\\((.*?)\\)(?: throws (.*))?;");

    public static void main(String[] args) throws IOException {
        if (Files.exists(DOCUMENT) && !told(Files.readString(DOCUMENT)).equals(FACE)) {
            System.out.println("the document's face is " + told(Files.readString(DOCUMENT)));
            System.exit(1);
        }
        List<String> seen = new ArrayList<>();
        for (Constructor<?> one : GoalDesk.class.getDeclaredConstructors()) {
            if (isSeen(one.getModifiers())) {
                seen.add("GoalDesk" + names(one.getParameterTypes(), "(", ",", ")"));
            }
        }
        for (Method one : GoalDesk.class.getDeclaredMethods()) {
            if (isSeen(one.getModifiers())) {
                seen.add(one.getReturnType() + " " + one.getName() + names(one.getParameterTypes(), "(", ",", ")")
                    + names(one.getExceptionTypes(), one.getExceptionTypes().length == 0 ? "" : " ", " ", ""));
            }
        }
        for (Field one : GoalDesk.class.getDeclaredFields()) {
            if (isSeen(one.getModifiers())) {
                seen.add("the field " + one.getName());
            }
        }
        boolean well = new TreeSet<>(FACE).equals(new TreeSet<>(seen)) && FACE.size() == seen.size();
        int modifiers = GoalDesk.class.getModifiers();
        if (!well || !Modifier.isPublic(modifiers) || !Modifier.isFinal(modifiers) || !innerClassesAreHidden()) {
            System.out.println("the face is " + seen);
            System.exit(1);
        }
        System.out.println("the face is as due");
    }

    /** The members as the document tells them, in the form of FACE. */
    private static List<String> told(String document) {
        List<String> members = new ArrayList<>();
        Matcher member = MEMBER.matcher(document);
        while (member.find()) {
            String types = member.group(2).replaceAll(" \\w+(, )?", "$1").replace(", ", ",");
            String thrown = member.group(3) == null ? "" : " " + member.group(3).replace("java.util.", "").replace(",", "");
            members.add(member.group(1) + "(" + types + ")" + thrown);
        }
        return members;
    }

    private static boolean innerClassesAreHidden() {
        for (Class<?> one : GoalDesk.class.getDeclaredClasses()) {
            if (Modifier.isPublic(one.getModifiers()) || Modifier.isProtected(one.getModifiers()) || !Modifier.isStatic(one.getModifiers())) {
                return false;
            }
        }
        return true;
    }

    private static boolean isSeen(int modifiers) {
        return !Modifier.isPrivate(modifiers);
    }

    private static String names(Class<?>[] types, String before, String between, String behind) {
        return before + String.join(between, Arrays.stream(types).map(Class::getSimpleName).toList()) + behind;
    }
}
