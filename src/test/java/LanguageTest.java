import java.io.IOException;
import java.lang.reflect.Constructor;
import java.lang.reflect.Field;
import java.lang.reflect.Method;
import java.lang.reflect.Modifier;
import java.nio.file.Files;
import java.nio.file.Path;
import java.util.Arrays;
import java.util.Set;
import java.util.TreeSet;
import java.util.regex.Matcher;
import java.util.regex.Pattern;

/** The face of the class, and the rules of LANGUAGE.md that can be seen without reading it. Run from the project's root. */
public final class LanguageTest {
    private static final String[] FACE = {
        "feed(int)", "bay()", "fault()", "told(int)", "house(int,int)", "sees(int,int)", "contract(int,int)", "light(int)",
        "minute(int)", "fog(int)", "wind(int)", "drift(int)", "undo()", "order(int,int)", "signers(int)", "farShore(int)",
        "cross(int,int)", "treaty(int)", "forged(int,int,int)", "damp(int)", "partner(int)", "duck(int,int)", "lit(int)",
        "write(int,int,boolean)", "tear()", "judge()", "seed(int)", "keep(int)", "goBack(int)",
    };
    private static final String[] BARRED = {
        "\\bthrow\\b", "\\btry\\b", "\\bcatch\\b", "\\bsynchronized\\b", "\\bassert\\b", "\\bpackage\\b", "->", "::",
        "\\w+Exact\\b", "\\bhashCode\\b", "\\bprotected\\b", "\\bSystem\\.(?!arraycopy)", "\\bRandom\\b", "\\bThread\\b",
        "@SuppressWarnings",
    };

    private static final String METHOD = "( {4}| {8})(?!(for|if|while|switch|do)\\b|\\})\\S.*\\) \\{";

    public static void main(String[] args) throws IOException {
        face();
        nested();
        source();
        methodLengths();
        madeAtFirstAlone();
        Check.end();
    }

    private static void face() {
        Set<String> methods = new TreeSet<>();
        Set<String> hidden = new TreeSet<>();
        for (Method method : FireworkDeeds.class.getDeclaredMethods()) {
            if (Modifier.isPrivate(method.getModifiers())) {
                hidden.add(method.getName());
                continue;
            }
            String types = Arrays.toString(Arrays.stream(method.getParameterTypes()).map(Class::getName).toArray());
            methods.add(method.getName() + "(" + types.substring(1, types.length() - 1).replace(", ", ",") + ")");
            yes("public int " + method, Modifier.isPublic(method.getModifiers()) && method.getReturnType() == int.class);
        }
        yes("the methods are the face's: " + methods, methods.equals(new TreeSet<>(Arrays.asList(FACE))));
        for (String method : FACE) {
            yes("no private " + method, !hidden.contains(method.substring(0, method.indexOf('('))));
        }
        Set<String> fields = new TreeSet<>();
        for (Field field : FireworkDeeds.class.getDeclaredFields()) {
            if (!Modifier.isPrivate(field.getModifiers())) {
                fields.add(field.getName());
            }
            yes("static fields are final: " + field, !Modifier.isStatic(field.getModifiers()) || Modifier.isFinal(field.getModifiers()));
        }
        yes("the constants are the face's", fields.equals(new TreeSet<>(Arrays.asList("NONE", "UNKNOWN", "OUTSIDE", "NOT", "FULL"))));
        Constructor<?>[] constructors = FireworkDeeds.class.getDeclaredConstructors();
        yes("some twenty fields", fieldsBesideConstants(FireworkDeeds.class) <= 20);
        yes("one constructor", constructors.length == 1 && constructors[0].getParameterCount() == 0);
        yes("a public final class", Modifier.isFinal(FireworkDeeds.class.getModifiers()) && Modifier.isPublic(FireworkDeeds.class.getModifiers()));
    }

    private static void nested() {
        Class<?>[] all = FireworkDeeds.class.getDeclaredClasses();
        yes("twelve classes at most", all.length + 1 <= 12);
        for (Class<?> each : all) {
            yes("static: " + each, Modifier.isStatic(each.getModifiers()) && !Modifier.isPublic(each.getModifiers()));
            yes("some twenty fields: " + each, fieldsBesideConstants(each) <= 20);
            for (Method method : each.getDeclaredMethods()) {
                yes("seven parameters: " + method, method.getParameterCount() <= 7);
                yes("a name of its own: " + method, Arrays.stream(FACE).noneMatch(face -> face.startsWith(method.getName() + "(")));
            }
        }
    }

    private static long fieldsBesideConstants(Class<?> type) {
        return Arrays.stream(type.getDeclaredFields()).filter(field -> !Modifier.isStatic(field.getModifiers())).count();
    }

    private static void source() throws IOException {
        String source = code();
        for (String barred : BARRED) {
            Matcher matcher = Pattern.compile(barred).matcher(source);
            yes("not in the source: " + barred, !matcher.find());
        }
        Matcher imports = Pattern.compile("\\bimport\\s+([\\w.]+)").matcher(source);
        while (imports.find()) {
            yes("import " + imports.group(1), imports.group(1).matches("java\\.util\\.(ArrayList|List|Arrays|Iterator)"));
        }
    }

    private static void methodLengths() throws IOException {
        int begun = 0;
        int line = 0;
        String end = "";
        for (String text : code().split("\n", -1)) {
            line++;
            if (text.matches(METHOD)) {
                begun = line;
                end = text.substring(0, text.length() - text.stripLeading().length()) + "}";
            } else if (text.equals(end)) {
                yes("some sixty lines from line " + begun, line - begun < 60);
                end = "";
            }
        }
        yes("methods were found", begun > 0);
    }

    /** All calls share one room, so that only constructors and fields make anything. */
    private static void madeAtFirstAlone() throws IOException {
        boolean inConstructor = false;
        for (String text : code().split("\n", -1)) {
            if (text.matches(METHOD)) {
                inConstructor = text.matches(" {4}public FireworkDeeds\\(\\) \\{| {8}[A-Z]\\w*\\(.*\\) \\{");
            }
            boolean field = text.matches(" {8}(private )?(final )?[\\w\\[\\]]+ \\w+ = new .*;");
            yes("made at first alone: " + text, !text.matches(".*\\bnew\\b.*") || inConstructor || field);
        }
    }

    private static String code() throws IOException {
        String all = Files.readString(Path.of("src/main/java/FireworkDeeds.java"));
        return all.replaceAll("(?s)/\\*.*?\\*/", "").replaceAll("//[^\n]*", "");
    }

    private static void yes(String what, boolean is) {
        Check.due(what, is ? 1 : 0, 1);
    }
}
