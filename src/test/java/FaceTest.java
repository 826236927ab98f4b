import java.lang.reflect.Constructor;
import java.lang.reflect.Field;
import java.lang.reflect.Method;
import java.lang.reflect.Modifier;
import java.nio.file.Files;
import java.nio.file.Path;
import java.util.Set;
import java.util.TreeSet;
import java.util.regex.Matcher;
import java.util.regex.Pattern;

/** The public face as the document has it, and those rules of LANGUAGE.md that can be looked up in the text. */
public final class FaceTest {
    private static final Check check = new Check();

    private static final String[] FACE = {
        "feed/1", "clan/0", "fault/0", "told/1", "person/2", "paper/2", "candidate/1", "year/1", "teach/2", "sign/2",
        "tearPaper/0", "drift/1", "undo/0", "whose/1", "odds/2", "marks/1", "tree/1", "kin/1", "most/0", "clash/0",
        "forged/0", "makers/1", "heir/1", "sham/1", "love/1", "vote/1", "turned/2", "one/2", "see/1", "madeBy/0",
        "lookAt/0", "write/2", "tear/0", "judge/0", "seed/1", "keep/1", "goBack/1"};

    private static final String[] FORBIDDEN = {
        "throw", "try", "catch", "synchronized", "assert", "import", "package", "->", "::", "Exact", "hashCode",
        "System\\.(?!arraycopy)", "Random", "Thread", "static\\s*\\{"};

    public static void main(String[] args) throws Exception {
        members();
        constants();
        nested();
        text(Files.readString(Path.of(args.length > 0 ? args[0] : ".", "src/main/java/SignedCross.java")));
        check.end();
    }

    private static void members() {
        check.holds("public and final", Modifier.isPublic(SignedCross.class.getModifiers())
            && Modifier.isFinal(SignedCross.class.getModifiers()));
        check.holds("it extends and implements nothing", SignedCross.class.getSuperclass() == Object.class
            && SignedCross.class.getInterfaces().length == 0);
        Set<String> due = new TreeSet<>(Set.of(FACE));
        Set<String> got = new TreeSet<>();
        Set<String> names = new TreeSet<>();
        for (Method method : SignedCross.class.getDeclaredMethods()) {
            if (!Modifier.isPrivate(method.getModifiers())) {
                got.add(method.getName() + "/" + method.getParameterCount());
                names.add(method.getName());
                check.holds(method + " is public int and nothing else", method.getModifiers() == Modifier.PUBLIC
                    && method.getReturnType() == int.class && method.getExceptionTypes().length == 0);
                for (Class<?> type : method.getParameterTypes()) {
                    check.holds(method + " takes int", type == int.class);
                }
            }
        }
        check.holds("the methods are those of the document: " + got, got.equals(due));
        for (Method method : SignedCross.class.getDeclaredMethods()) {
            check.holds(method + " bears no public name", !Modifier.isPrivate(method.getModifiers())
                || !names.contains(method.getName()));
            check.holds(method + " has seven parameters at most", method.getParameterCount() <= 7);
        }
        Constructor<?>[] constructors = SignedCross.class.getDeclaredConstructors();
        check.due("constructors", constructors.length, 1);
        check.due("its parameters", constructors[0].getParameterCount(), 0);
        check.holds("it is public", Modifier.isPublic(constructors[0].getModifiers()));
    }

    private static void constants() throws Exception {
        check.due("NONE", SignedCross.NONE, -1);
        check.due("UNKNOWN", SignedCross.UNKNOWN, -1000000001);
        check.due("OUTSIDE", SignedCross.OUTSIDE, -1000000002);
        check.due("NOT", SignedCross.NOT, -1000000003);
        check.due("FULL", SignedCross.FULL, -1000000004);
        int open = 0;
        for (Field field : SignedCross.class.getDeclaredFields()) {
            int how = field.getModifiers();
            check.holds(field + " is private or public", Modifier.isPrivate(how) || Modifier.isPublic(how));
            check.holds(field + " is final if static", !Modifier.isStatic(how) || Modifier.isFinal(how));
            if (Modifier.isPublic(how)) {
                open++;
                check.holds(field + " is a constant of int", Modifier.isStatic(how) && field.getType() == int.class);
            }
        }
        check.due("public fields", open, 5);
    }

    private static void nested() {
        Class<?>[] inside = SignedCross.class.getDeclaredClasses();
        check.holds("some twelve classes at most", inside.length + 1 <= 12);
        for (Class<?> one : inside) {
            int how = one.getModifiers();
            check.holds(one + " is static and not public",
                Modifier.isStatic(how) && !Modifier.isPublic(how) && !Modifier.isProtected(how));
            int fields = 0;
            for (Field field : one.getDeclaredFields()) {
                fields += Modifier.isStatic(field.getModifiers()) ? 0 : 1;
                check.holds(field + " is final if static",
                    !Modifier.isStatic(field.getModifiers()) || Modifier.isFinal(field.getModifiers()));
            }
            check.holds(one + " has some twenty fields at most", fields <= 20);
        }
    }

    private static void text(String source) {
        String code = source.replaceAll("(?s)/\\*.*?\\*/", "").replaceAll("//[^\n]*", "");
        for (String word : FORBIDDEN) {
            String bounded = word.matches("[A-Za-z]+") && !word.equals("Exact") ? "\\b" + word + "\\b" : word;
            Matcher matcher = Pattern.compile(bounded).matcher(code);
            check.holds("no '" + word + "' in the program", !matcher.find());
        }
        check.holds("signs 1 to 127 alone", source.chars().allMatch(sign -> sign > 0 && sign < 128));
    }
}
