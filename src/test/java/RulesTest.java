import java.io.IOException;
import java.lang.reflect.Field;
import java.lang.reflect.Method;
import java.lang.reflect.Modifier;
import java.nio.file.Files;
import java.nio.file.Path;
import java.util.Arrays;
import java.util.HashSet;
import java.util.Set;
import java.util.TreeSet;
import java.util.regex.Matcher;
import java.util.regex.Pattern;

/** The public face, and those rules of LANGUAGE.md that a program can look for. */
final class RulesTest {
    private static final String[] FACE = {
        "back(int)int", "best(int,int,int,int)int", "clear()int",
        "comes(int,int,int,int,int,int,int)int", "could(int)int", "count(int)int", "enough(int,int)int",
        "forget()int", "home(int)int", "keep(int)int", "lane()int", "lot(int)int",
        "odds(int,int,int)long", "picture(int,int)int", "rate(int,int,int)int", "runner(int,int)int",
        "runs(int,int)int", "told(int)int", "toss(int,int,int,int,int)int",
        "towns(int,int,int,int,int)int", "trace()long", "type(long,int)int", "undo()int",
        "yard(int,int)int",
    };

    private RulesTest() {
    }

    public static void main(String[] args) throws IOException {
        face();
        classes();
        String code = codeAlone(Files.readString(Path.of("src/main/java/PancakeRun.java")));
        forbiddenWords(code);
        lengths(code);
        Due.end();
    }

    private static void face() {
        Class<?> face = PancakeRun.class;
        Due.holds("public and final", face.getModifiers() == (Modifier.PUBLIC | Modifier.FINAL));
        Due.is("constructors", face.getDeclaredConstructors().length, 1);
        Due.is("public constructors", face.getConstructors().length, 1);
        Set<String> shown = new TreeSet<>();
        Set<String> hidden = new HashSet<>();
        for (Method method : face.getDeclaredMethods()) {
            if (Modifier.isPrivate(method.getModifiers())) {
                hidden.add(method.getName());
            } else {
                Due.is(method + " is public alone", method.getModifiers(), Modifier.PUBLIC);
                String given = Arrays.toString(method.getParameterTypes()).replaceAll("[\\[\\] ]", "");
                shown.add(method.getName() + "(" + given + ")" + method.getReturnType());
            }
        }
        Due.holds("the face's methods: " + shown, shown.equals(new TreeSet<>(Arrays.asList(FACE))));
        for (String call : FACE) {
            Due.holds(call + " is no private name", !hidden.contains(call.replaceAll("\\(.*", "")));
        }
        int constants = 0;
        for (Field field : face.getDeclaredFields()) {
            if (!Modifier.isPrivate(field.getModifiers())) {
                constants++;
                Due.is(field + " is a constant", field.getModifiers(),
                    Modifier.PUBLIC | Modifier.STATIC | Modifier.FINAL);
            }
        }
        Due.is("constants", constants, 5);
    }

    private static void classes() {
        Class<?>[] inside = PancakeRun.class.getDeclaredClasses();
        Due.holds("twelve classes at most", inside.length < 12);
        fields(PancakeRun.class);
        for (Class<?> one : inside) {
            Due.holds(one + " is static", Modifier.isStatic(one.getModifiers()));
            Due.holds(one + " is not public", !Modifier.isPublic(one.getModifiers()));
            Due.is("classes inside " + one, one.getDeclaredClasses().length, 0);
            fields(one);
        }
    }

    private static void fields(Class<?> one) {
        int ofObject = 0;
        for (Field field : one.getDeclaredFields()) {
            if (!Modifier.isStatic(field.getModifiers())) {
                ofObject++;
            } else {
                Due.holds(field + " is final", Modifier.isFinal(field.getModifiers()));
                Due.holds(field + " is a number", field.getType().isPrimitive());
            }
        }
        Due.holds("twenty fields at most in " + one, ofObject <= 20);
        for (Method method : one.getDeclaredMethods()) {
            Due.holds(method + " takes seven at most", method.getParameterCount() <= 7);
        }
    }

    /** The source without comments and texts. */
    private static String codeAlone(String source) {
        return source.replaceAll("(?s)/\\*.*?\\*/", "").replaceAll("//[^\n]*", "")
            .replaceAll("\"[^\"\n]*\"", "TEXT");
    }

    private static void forbiddenWords(String code) {
        String[] words = {
            "\\bthrows?\\b", "\\btry\\b", "\\bcatch\\b", "\\bfinally\\b", "\\bsynchronized\\b",
            "\\bassert\\b", "->", "::", "@", "\\bimport\\b", "\\bpackage\\b", "\\bdouble\\b",
            "\\bfloat\\b", "\\bvar\\b", "\\bObject\\b", "\\bnative\\b", "\\bvolatile\\b", "Exact\\b",
            "\\bhashCode\\b", "\\btoString\\b", "\\bequals\\b", "\\bprotected\\b", "TEXT \\+",
            "\\+ TEXT", "\\bSystem\\.(?!arraycopy)", "\\bnull\\b",
            // What is made is given nothing, so no constructor hands out a part of its object.
            "\\bnew [A-Z]\\w*\\((?!\\))", "[(,] *this *[,)]",
        };
        for (String word : words) {
            Matcher found = Pattern.compile(word).matcher(code);
            Due.holds("no " + word, !found.find());
        }
        for (int i = 0; i < code.length(); i++) {
            if (code.charAt(i) > 126) {
                Due.holds("only signs up to 126", false);
            }
        }
    }

    private static void lengths(String code) {
        String[] lines = code.split("\n");
        int begun = 0;
        for (int i = 0; i < lines.length; i++) {
            if (lines[i].matches(" {4}( {4})?[a-zA-Z].*\\) \\{")) {
                begun = i;
            } else if (lines[i].matches(" {4}( {4})?\\}")) {
                Due.holds("a method of sixty lines at most: " + lines[begun],
                    !lines[begun].contains(") {") || i - begun <= 60);
                begun = i;
            }
        }
    }
}
