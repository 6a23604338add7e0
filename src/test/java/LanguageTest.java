import java.io.IOException;
import java.lang.reflect.Constructor;
import java.lang.reflect.Field;
import java.lang.reflect.Method;
import java.lang.reflect.Modifier;
import java.nio.file.Files;
import java.nio.file.Path;
import java.util.Arrays;
import java.util.Set;
import java.util.TreeSet;
import java.util.regex.Matcher;
import java.util.regex.Pattern;

/** The face of the class, and the rules of LANGUAGE.md that can be seen without reading it. Run from the project's root. */
public final class LanguageTest {
    private static final String[] FACE = {
        "feed(int)", "bay()", "fault()", "told(int)", "house(int,int)", "sees(int,int)", "contract(int,int)", "light(int)",
        "minute(int)", "fog(int)", "wind(int)", "drift(int)", "undo()", "order(int,int)", "signers(int)", "farShore(int)",
        "cross(int,int)", "treaty(int)", "forged(int,int,int)", "damp(int)", "partner(int)", "duck(int,int)", "lit(int)",
        "write(int,int,boolean)", "tear()", "judge()", "seed(int)", "keep(int)", "goBack(int)",
    };
    private static final String[] BARRED = {
        "\\bthrow\\b", "\\btry\\b", "\\bcatch\\b", "\\bsynchronized\\b", "\\bassert\\b", "\\bpackage\\b", "->", "::",
        "\\w+Exact\\b", "\\bhashCode\\b", "\\bprotected\\b", "\\bSystem\\.(?!arraycopy)", "\\bRandom\\b", "\\bThread\\b",
        "@SuppressWarnings",
    };

    public static void main(String[] args) throws IOException {
        face();
        nested();
        source();
        methodLengths();
        Check.end();
    }

    private static void face() {
        Set<String> methods = new TreeSet<>();
        Set<String> hidden = new TreeSet<>();
        for (Method method : FireworkDeeds.class.getDeclaredMethods()) {
            if (Modifier.isPrivate(method.getModifiers())) {
                hidden.add(method.getName());
                continue;
            }
            String types = Arrays.toString(Arrays.stream(method.getParameterTypes()).map(Class::getName).toArray());
            methods.add(method.getName() + "(" + types.substring(1, types.length() - 1).replace(", ", ",") + ")");
            yes("public int " + method, Modifier.isPublic(method.getModifiers()) && method.getReturnType() == int.class);
        }
        yes("the methods are the face's: " + methods, methods.equals(new TreeSet<>(Arrays.asList(FACE))));
        for (String method : FACE) {
            yes("no private " + method, !hidden.contains(method.substring(0, method.indexOf('('))));
        }
        Set<String> fields = new TreeSet<>();
        for (Field field : FireworkDeeds.class.getDeclaredFields()) {
            if (!Modifier.isPrivate(field.getModifiers())) {
                fields.add(field.getName());
            }
            yes("static fields are final: " + field, !Modifier.isStatic(field.getModifiers()) || Modifier.isFinal(field.getModifiers()));
        }
        yes("the constants are the face's", fields.equals(new TreeSet<>(Arrays.asList("NONE", "UNKNOWN", "OUTSIDE", "NOT", "FULL"))));
        Constructor<?>[] constructors = FireworkDeeds.class.getDeclaredConstructors();
        yes("one constructor", constructors.length == 1 && constructors[0].getParameterCount() == 0);
        yes("a public final class", Modifier.isFinal(FireworkDeeds.class.getModifiers()) && Modifier.isPublic(FireworkDeeds.class.getModifiers()));
    }

    private static void nested() {
        Class<?>[] all = FireworkDeeds.class.getDeclaredClasses();
        yes("twelve classes at most", all.length + 1 <= 12);
        for (Class<?> each : all) {
            yes("static: " + each, Modifier.isStatic(each.getModifiers()) && !Modifier.isPublic(each.getModifiers()));
            yes("some twenty fields: " + each, each.getDeclaredFields().length <= 20);
            for (Method method : each.getDeclaredMethods()) {
                yes("seven parameters: " + method, method.getParameterCount() <= 7);
            }
        }
    }

    private static void source() throws IOException {
        String source = code();
        for (String barred : BARRED) {
            Matcher matcher = Pattern.compile(barred).matcher(source);
            yes("not in the source: " + barred, !matcher.find());
        }
        Matcher imports = Pattern.compile("\\bimport\\s+([\\w.]+)").matcher(source);
        while (imports.find()) {
            yes("import " + imports.group(1), imports.group(1).matches("java\\.util\\.(ArrayList|List|Arrays|Iterator)"));
        }
    }

    private static void methodLengths() throws IOException {
        int begun = -1;
        int line = 0;
        for (String text : code().split("\n", -1)) {
            line++;
            if (text.matches("( {4}| {8})\\S.*\\) \\{")) {
                begun = line;
            } else if (text.matches("( {4}| {8})\\}") && begun > 0) {
                yes("some sixty lines from line " + begun, line - begun < 60);
                begun = -1;
            }
        }
    }

    private static String code() throws IOException {
        String all = Files.readString(Path.of("src/main/java/FireworkDeeds.java"));
        return all.replaceAll("(?s)/\\*.*?\\*/", "").replaceAll("//[^\n]*", "");
    }

    private static void yes(String what, boolean is) {
        Check.due(what, is ? 1 : 0, 1);
    }
}
