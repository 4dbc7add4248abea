import java.io.IOException;
import java.lang.reflect.Constructor;
import java.lang.reflect.Field;
import java.lang.reflect.Method;
import java.lang.reflect.Modifier;
import java.nio.file.Files;
import java.nio.file.Path;
import java.util.Arrays;
import java.util.Set;
import java.util.TreeSet;
import java.util.regex.Pattern;

/** The document's public face, and those rules of LANGUAGE.md that a text or a class file shows. */
public final class FaceTest {
    private static final Path PROGRAM = Path.of("src/main/java/CoinDesk.java");
    private static final String[] FACE = {
        "boolean begin()", "boolean has()", "boolean put(long,int)", "int back()", "int byteOf(int)",
        "int count(int)", "int end()", "int forget()", "int make(long,boolean)", "int spend()", "long look(int)",
        "long total()", "void empty()", "void key(long,long,long,long,int)"};
    private static final String[] RULED_OUT = {
        "\\bthrow\\b", "\\btry\\b", "\\bcatch\\b", "\\bsynchronized\\b", "\\bassert\\b", "\\bimport\\b",
        "\\bpackage\\b", "->", "::", "\"", "Exact\\(", "\\bjava\\.", "\\bSystem\\.(?!arraycopy)", "\\bstatic \\{"};

    private static int wrong = 0;

    private static void check(String what, boolean holds) {
        if (!holds) {
            wrong++;
            System.out.println("not so: " + what);
        }
    }

    public static void main(String[] args) throws IOException {
        checkFace();
        checkMembers();
        checkText();
        System.out.println(wrong == 0 ? "the face and the text are as due" : wrong + " rules are broken");
        if (wrong != 0) {
            System.exit(1);
        }
    }

    private static void checkFace() {
        check("the class is public and final",
                Modifier.isPublic(CoinDesk.class.getModifiers()) && Modifier.isFinal(CoinDesk.class.getModifiers()));
        Constructor<?>[] constructors = CoinDesk.class.getDeclaredConstructors();
        check("one public constructor of an int", constructors.length == 1
                && Modifier.isPublic(constructors[0].getModifiers())
                && Arrays.equals(constructors[0].getParameterTypes(), new Class<?>[] {int.class}));
        Set<String> shown = new TreeSet<>();
        for (Method method : CoinDesk.class.getDeclaredMethods()) {
            if (!Modifier.isPrivate(method.getModifiers())) {
                check(method + " is public and not static",
                        Modifier.isPublic(method.getModifiers()) && !Modifier.isStatic(method.getModifiers()));
                shown.add(signature(method));
            }
        }
        check("the public methods are the document's: " + shown, shown.equals(new TreeSet<>(Arrays.asList(FACE))));
    }

    private static String signature(Method method) {
        StringBuilder types = new StringBuilder();
        for (Class<?> type : method.getParameterTypes()) {
            types.append(types.length() == 0 ? "" : ",").append(type.getName());
        }
        return method.getReturnType().getName() + " " + method.getName() + "(" + types + ")";
    }

    private static void checkMembers() {
        Set<String> faceNames = new TreeSet<>();
        for (String method : FACE) {
            faceNames.add(method.substring(method.indexOf(' ') + 1, method.indexOf('(')));
        }
        for (Method method : CoinDesk.class.getDeclaredMethods()) {
            check(method + " has a name of its own",
                    !Modifier.isPrivate(method.getModifiers()) || !faceNames.contains(method.getName()));
        }
        for (Field field : CoinDesk.class.getDeclaredFields()) {
            check(field + " is private", Modifier.isPrivate(field.getModifiers()));
            check(field + " is final if static",
                    !Modifier.isStatic(field.getModifiers()) || Modifier.isFinal(field.getModifiers()));
        }
        for (Class<?> inside : CoinDesk.class.getDeclaredClasses()) {
            check(inside + " is static, and not public or protected", Modifier.isStatic(inside.getModifiers())
                    && !Modifier.isPublic(inside.getModifiers()) && !Modifier.isProtected(inside.getModifiers()));
            for (Method method : inside.getDeclaredMethods()) {
                check(method + " has a name of its own", !faceNames.contains(method.getName()));
            }
        }
        check("at most twelve classes", CoinDesk.class.getDeclaredClasses().length < 12);
    }

    private static void checkText() throws IOException {
        String code = Files.readString(PROGRAM).replaceAll("(?s)/\\*.*?\\*/", "").replaceAll("//[^\n]*", "");
        for (String pattern : RULED_OUT) {
            check("no " + pattern + " in the program", !Pattern.compile(pattern).matcher(code).find());
        }
    }
}
