import java.io.IOException;
import java.lang.reflect.Constructor;
import java.lang.reflect.Field;
import java.lang.reflect.Method;
import java.lang.reflect.Modifier;
import java.nio.file.Files;
import java.nio.file.Path;
import java.util.Arrays;
import java.util.Set;
import java.util.TreeSet;
import java.util.regex.Matcher;
import java.util.regex.Pattern;

/** The public face, and those rules of LANGUAGE.md that can be told from the class or its text. */
public final class FaceTest {
    private static final Checks is = new Checks();
    private static final Set<String> METHODS = new TreeSet<>(Arrays.asList(
        "int letter(int)", "int blank()", "int fault()", "int town()", "int about(int,int)", "int as(int,int)",
        "int go(int,int)", "int sell(int,int,int)", "int quarrel(int,int,boolean)", "int written(int,int)",
        "int moves(int,int)", "int days(int,int)", "int hear(int,int,boolean)", "int forget()",
        "int holders(int,int)", "int invite(int)", "int years(int,int,int)", "int image()", "int restore()",
        "int count(int)", "long digest()"));

    public static void main(String[] args) throws IOException {
        Class<?> face = SpeltByFriends.class;
        is.holds("public and final", Modifier.isPublic(face.getModifiers()) && Modifier.isFinal(face.getModifiers()));
        methods(face);
        fields(face);
        Constructor<?>[] made = face.getDeclaredConstructors();
        is.holds("one public constructor", made.length == 1 && Modifier.isPublic(made[0].getModifiers())
            && made[0].getParameterCount() == 0);
        classesInside(face);
        if (args.length > 0) {
            text(Files.readString(Path.of(args[0])));
        }
        is.end();
    }

    private static void methods(Class<?> face) {
        Set<String> open = new TreeSet<>();
        Set<String> names = new TreeSet<>();
        for (Method method : face.getDeclaredMethods()) {
            if (!Modifier.isPrivate(method.getModifiers())) {
                is.holds(method.getName() + " is public", method.getModifiers() == Modifier.PUBLIC);
                open.add(method.getReturnType() + " " + method.getName() + "("
                    + String.join(",", Arrays.stream(method.getParameterTypes()).map(Class::getName).toList()) + ")");
                names.add(method.getName());
            }
        }
        is.holds("the methods are those of the document: " + open, open.equals(METHODS));
        for (Method method : face.getDeclaredMethods()) {
            is.holds("no private " + method.getName(),
                !Modifier.isPrivate(method.getModifiers()) || !names.contains(method.getName()));
        }
    }

    private static void fields(Class<?> face) {
        Set<String> open = new TreeSet<>();
        int own = 0;
        for (Field field : face.getDeclaredFields()) {
            boolean constant = Modifier.isStatic(field.getModifiers());
            is.holds(field + " is no changing static", !constant || Modifier.isFinal(field.getModifiers()));
            own += constant ? 0 : 1;
            if (!Modifier.isPrivate(field.getModifiers())) {
                open.add(field.getName());
            }
        }
        is.holds("some twenty fields", own <= 20);
        is.holds("the constants: " + open,
            open.equals(new TreeSet<>(Arrays.asList("NONE", "UNKNOWN", "OUTSIDE", "STATE", "FULL"))));
        is.due("NONE", SpeltByFriends.NONE, -1);
        is.due("UNKNOWN", SpeltByFriends.UNKNOWN, -101);
        is.due("OUTSIDE", SpeltByFriends.OUTSIDE, -102);
        is.due("STATE", SpeltByFriends.STATE, -103);
        is.due("FULL", SpeltByFriends.FULL, -104);
    }

    private static void classesInside(Class<?> face) {
        is.holds("some twelve classes", face.getDeclaredClasses().length < 12);
        for (Class<?> inside : face.getDeclaredClasses()) {
            is.holds(inside + " is static and private", Modifier.isStatic(inside.getModifiers())
                && Modifier.isPrivate(inside.getModifiers()));
            for (Method method : inside.getDeclaredMethods()) {
                is.holds(method + " takes seven at most", method.getParameterCount() <= 7);
            }
        }
    }

    private static void text(String source) {
        String code = source.replaceAll("(?s)/\\*.*?\\*/", "").replaceAll("//[^\n]*", "");
        String banned = "\\b(package|import|try|catch|finally|throw|throws|synchronized|assert|protected|"
            + "System|Thread|Random|Object|equals|hashCode|toString|double|float)\\b|->|::|@";
        Matcher found = Pattern.compile(banned).matcher(code);
        while (found.find()) {
            is.holds("the class does without '" + found.group() + "'", false);
        }
        is.holds("plain signs alone", source.chars().allMatch(c -> c == '\n' || c >= 32 && c < 127));
    }
}
