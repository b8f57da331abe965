import java.io.IOException;
import java.lang.reflect.Constructor;
import java.lang.reflect.Field;
import java.lang.reflect.Method;
import java.lang.reflect.Modifier;
import java.nio.file.Files;
import java.nio.file.Path;
import java.util.Arrays;
import java.util.List;
import java.util.Set;
import java.util.TreeSet;
import java.util.regex.Pattern;

/** The public face, letter by letter, and what of the rules of the language can be seen from outside. */
public final class FaceTest {
    private static final String[] FACE = {
        "int feed(long,long,long)", "int assize()", "int term()", "int judge(int,int)", "int trial(int,int)", "int day()",
        "int plead(int,int)", "int lean(int,int)", "boolean change(int,int)", "boolean undo()", "int judged(int)", "int hears(int)",
        "int gives(int,int)", "int from(int)", "int gets(int)", "int best(int)", "int plan(int)", "int lightest(int)", "int own(int)",
        "int later(int,int)", "int reaches(int,int)", "int grief(int)", "int heavy()", "int back(int)", "int loops(int)", "int uneven()",
        "int lucky()", "boolean see(int,int,boolean)", "int shifts()", "int ask()", "int strange(int)", "int swap()", "int harsh()",
        "int crowd(int)", "int idle()", "int mercy(int)", "int spared()", "int chance(int,int,int)", "int rests(int,int,int,int)",
        "int terms(int,int,int)", "boolean mark(int,boolean)", "int count(int)"};

    public static void main(String[] args) throws IOException {
        face();
        insides();
        source();
        Check.end();
    }

    private static String told(Method method) {
        StringBuilder text = new StringBuilder(method.getReturnType().getName());
        text.append(' ').append(method.getName()).append('(');
        String between = "";
        for (Class<?> type : method.getParameterTypes()) {
            text.append(between).append(type.getName());
            between = ",";
        }
        return text.append(')').toString();
    }

    private static void face() {
        Class<?> type = SwapAssize.class;
        Check.due("public and final", type.getModifiers(), Modifier.PUBLIC | Modifier.FINAL);
        Set<String> seen = new TreeSet<>();
        for (Method method : type.getDeclaredMethods()) {
            if (Modifier.isPublic(method.getModifiers())) {
                Check.due("not static: " + method, Modifier.isStatic(method.getModifiers()), false);
                String thrown = method.getName().equals("rests") ? "[class java.util.NoSuchElementException]" : "[]";
                Check.due("thrown by " + method, Arrays.toString(method.getExceptionTypes()), thrown);
                seen.add(told(method));
            } else {
                Check.due("private: " + method, Modifier.isPrivate(method.getModifiers()), true);
            }
        }
        Set<String> wanted = new TreeSet<>(Arrays.asList(FACE));
        Check.due("the face is " + seen, seen.equals(wanted), true);
        for (Field field : type.getDeclaredFields()) {
            boolean constant = field.getName().equals("NONE");
            Check.due("field " + field, Modifier.isPrivate(field.getModifiers()), !constant);
            Check.due("field " + field, constant && !Modifier.isPublic(field.getModifiers()), false);
        }
        Check.due("NONE", SwapAssize.NONE, -1);
        Constructor<?>[] constructors = type.getDeclaredConstructors();
        Check.due("one constructor", constructors.length, 1);
        Check.due("a public one of nothing", constructors[0].getParameterCount() == 0 && Modifier.isPublic(constructors[0].getModifiers()), true);
    }

    private static void insides() {
        Set<String> names = new TreeSet<>();
        for (String method : FACE) {
            names.add(method.substring(method.indexOf(' ') + 1, method.indexOf('(')));
        }
        List<Class<?>> classes = List.of(SwapAssize.class.getDeclaredClasses());
        Check.due("some twelve classes", classes.size() <= 12, true);
        for (Class<?> inside : classes) {
            Check.due("static: " + inside, Modifier.isStatic(inside.getModifiers()), true);
            Check.due("not public: " + inside, Modifier.isPublic(inside.getModifiers()) || Modifier.isProtected(inside.getModifiers()), false);
            fields(inside);
            for (Method method : inside.getDeclaredMethods()) {
                Check.due("no name of the face: " + method, names.contains(method.getName()), false);
                Check.due("seven parameters: " + method, method.getParameterCount() <= 7, true);
            }
        }
        fields(SwapAssize.class);
        for (Method method : SwapAssize.class.getDeclaredMethods()) {
            boolean hidden = Modifier.isPrivate(method.getModifiers());
            Check.due("no name of the face: " + method, hidden && names.contains(method.getName()), false);
        }
    }

    private static void fields(Class<?> type) {
        int own = 0;
        for (Field field : type.getDeclaredFields()) {
            boolean shared = Modifier.isStatic(field.getModifiers());
            Check.due("static and not final: " + field, shared && !Modifier.isFinal(field.getModifiers()), false);
            own += shared ? 0 : 1;
        }
        Check.due("some twenty fields: " + type, own <= 20, true);
    }

    private static void source() throws IOException {
        String text = Files.readString(Path.of("src/main/java/SwapAssize.java"));
        String code = text.replaceAll("(?s)/\\*.*?\\*/", "").replaceAll("//[^\\n]*", "");
        for (String word : new String[] {"catch", "try", "finally", "synchronized", "assert", "package", "lambda", "Random", "currentTimeMillis",
            "nanoTime", "Thread", "protected", "instanceof", "double", "float", "var"}) {
            Check.due("no " + word, Pattern.compile("\\b" + word + "\\b").matcher(code).find(), false);
        }
        for (String sign : new String[] {"->", "::", "Exact(", "Object", "\t"}) {
            Check.due("no " + sign, code.contains(sign), false);
        }
        for (String line : code.split("\n")) {
            boolean imports = line.startsWith("import ");
            Check.due(line, imports && !line.equals("import java.util.NoSuchElementException;"), false);
        }
    }
}
