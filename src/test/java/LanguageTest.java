import java.io.IOException;
import java.lang.reflect.Constructor;
import java.lang.reflect.Field;
import java.lang.reflect.Method;
import java.lang.reflect.Modifier;
import java.nio.file.Files;
import java.nio.file.Path;
import java.util.ArrayDeque;
import java.util.Arrays;
import java.util.Deque;
import java.util.Set;
import java.util.TreeMap;
import java.util.TreeSet;
import java.util.regex.Matcher;
import java.util.regex.Pattern;
import java.util.stream.Collectors;

/** The public face, and those rules of ../shared/LANGUAGE.md that can be seen from the source or the class. */
final class LanguageTest {
    private static final Set<String> FACE = new TreeSet<>(Arrays.asList(
        "feed(int,int,int,int,int)int", "end(int)int", "house()int", "rule()int", "force(int)int",
        "heir(int,int)int", "thing(int,int)int", "knows(int,int,int)int", "year()int",
        "tell(int,int,int,boolean)int", "prompt(int,int)int", "ask(int,int)int", "burn(int)boolean", "undo()int",
        "ahead(int,int)int", "strike(int)int", "inherits(int)int", "longest()int", "fields(int)int",
        "falls(int)int", "examine(int)int", "likeliest(int,int)int", "parts(int,int)int", "ways(int)int",
        "taught(int,int)int", "prompts(int,int,int)int", "cost(int)int", "seed(int)int", "drawn(int,int,int)int",
        "count(int)int", "image(int)int", "back(int)int"));

    private LanguageTest() {
    }

    public static void main(String[] args) throws IOException {
        face();
        classesInside();
        words(Files.readString(Path.of("src/main/java/ForgetHeirs.java")));
        Due.end("LanguageTest");
    }

    private static void hold(String what, boolean holds) {
        Due.due(what, holds, true);
    }

    private static void face() {
        Class<?> face = ForgetHeirs.class;
        hold("public final class", face.getModifiers() == (Modifier.PUBLIC | Modifier.FINAL));
        Set<String> names = new TreeSet<>();
        for (Method method : face.getDeclaredMethods()) {
            int modifiers = method.getModifiers();
            if (Modifier.isPublic(modifiers)) {
                names.add(method.getName() + Arrays.stream(method.getParameterTypes()).map(Class::getName)
                    .collect(Collectors.joining(",", "(", ")")) + method.getReturnType().getName());
                hold(method + " is not static", !Modifier.isStatic(modifiers));
            } else {
                hold(method + " is private", Modifier.isPrivate(modifiers));
            }
        }
        hold("the face " + names, names.equals(FACE));
        for (Field field : face.getDeclaredFields()) {
            boolean constant = field.getName().equals("NONE") && field.getType() == int.class
                && field.getModifiers() == (Modifier.PUBLIC | Modifier.STATIC | Modifier.FINAL);
            hold(field + " is private", constant || Modifier.isPrivate(field.getModifiers()));
        }
        Constructor<?>[] constructors = face.getDeclaredConstructors();
        hold("one public constructor", constructors.length == 1 && Modifier.isPublic(constructors[0].getModifiers())
            && constructors[0].getParameterCount() == 0);
    }

    private static void classesInside() {
        Set<String> names = FACE.stream().map(name -> name.substring(0, name.indexOf('('))).collect(Collectors.toSet());
        Class<?>[] inside = ForgetHeirs.class.getDeclaredClasses();
        hold("at most 12 classes", inside.length + 1 <= 12);
        for (Class<?> one : inside) {
            int modifiers = one.getModifiers();
            hold(one + " is static", Modifier.isStatic(modifiers));
            hold(one + " is not public", !Modifier.isPublic(modifiers) && !Modifier.isProtected(modifiers));
            hold(one + " has none inside", one.getDeclaredClasses().length == 0);
            for (Method method : one.getDeclaredMethods()) {
                hold(method + " has a name of its own", !names.contains(method.getName()));
                hold(method + " has 7 parameters at most", method.getParameterCount() <= 7);
            }
        }
        Class<?>[] all = Arrays.copyOf(inside, inside.length + 1);
        all[inside.length] = ForgetHeirs.class;
        for (Class<?> one : all) {
            long fields = Arrays.stream(one.getDeclaredFields())
                .filter(field -> !Modifier.isStatic(field.getModifiers())).count();
            hold(one + " has some twenty fields: " + fields, fields <= 20);
            for (Field field : one.getDeclaredFields()) {
                boolean constant = Modifier.isFinal(field.getModifiers())
                    && (field.getType().isPrimitive() || field.getType() == String.class);
                hold(field + " is a constant, if static", !Modifier.isStatic(field.getModifiers()) || constant);
            }
        }
    }

    /** What stands between quotes or in comments does not count. */
    private static String bare(String source) {
        Pattern quiet = Pattern.compile("\"(\\\\.|[^\"\\\\])*\"|'(\\\\.|[^'\\\\])'|//[^\\n]*|/\\*.*?\\*/", Pattern.DOTALL);
        return quiet.matcher(source).replaceAll(match -> match.group().replaceAll("[^\\n]", " "));
    }

    private static void words(String source) {
        for (int i = 0; i < source.length(); i++) {
            hold("a sign of 1 to 127 at " + i, source.charAt(i) > 0 && source.charAt(i) < 128);
        }
        String code = bare(source);
        String[] banned = {"\\bthrow\\b", "\\bthrows\\b", "\\btry\\b", "\\bcatch\\b", "\\bsynchronized\\b", "\\bassert\\b",
            "->", "::", "\\bpackage\\b", "\\bprotected\\b", "\\bvar\\b", "\\bfloat\\b", "\\bdouble\\b", "Exact\\b",
            "\\bSystem\\.(?!arraycopy)", "\\bequals\\b", "\\bhashCode\\b", "\\btoString\\b", "\\bObject\\b", "\\brecord\\b",
            "\\bnew [A-Za-z]+\\([^)]*\\)\\s*\\{", "\\binstanceof\\b", "\\bnative\\b", "\\bvolatile\\b", "while \\(true\\)"};
        for (String word : banned) {
            Matcher found = Pattern.compile(word).matcher(code);
            hold("no " + word, !found.find());
        }
        Matcher imports = Pattern.compile("\\bimport ([^;]+);").matcher(code);
        while (imports.find()) {
            hold("import of " + imports.group(1), imports.group(1).equals("java.util.Arrays"));
        }
        methodLengths(code);
    }

    private static void methodLengths(String code) {
        TreeMap<Integer, Integer> lengths = new TreeMap<>();
        Deque<Integer> opened = new ArrayDeque<>();
        Deque<Boolean> classes = new ArrayDeque<>();
        int line = 1;
        int statement = 0;
        for (int i = 0; i < code.length(); i++) {
            char sign = code.charAt(i);
            if (sign == '\n') {
                line++;
            } else if (sign == '{') {
                opened.push(line);
                classes.push(code.substring(statement, i).contains("class "));
            } else if (sign == '}') {
                int from = opened.pop();
                if (!classes.pop()) {
                    lengths.put(from, line - from + 1);
                }
            }
            if (sign == '{' || sign == '}' || sign == ';') {
                statement = i + 1;
            }
        }
        lengths.forEach((from, length) -> hold("the method of line " + from + " is short: " + length, length <= 60));
    }
}
