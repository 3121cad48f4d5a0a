import java.io.IOException;
import java.lang.reflect.Constructor;
import java.lang.reflect.Field;
import java.lang.reflect.Method;
import java.lang.reflect.Modifier;
import java.nio.file.Files;
import java.nio.file.Path;
import java.util.Arrays;
import java.util.Set;
import java.util.TreeSet;
import java.util.regex.Matcher;
import java.util.regex.Pattern;

/** The public face, and what LANGUAGE.md rules out of the class as far as a look at it can tell. */
public final class RulesTest {
    private static final Due DUE = new Due();
    private static final Set<String> FACE = Set.of(
            "type(int)", "clear()", "downs()", "fence(int,int)", "kind(int,int)", "beast(int,int)",
            "sound(int,int)", "goes(int,int)", "cuts(int,int)", "tunes(int,int)", "lays(int)",
            "rains(int)", "undo()", "now(int)", "song(int)", "who(int)", "hears(int)", "forget()",
            "ways(int,int)", "ends(int)", "can()", "ask()", "quiet(int,int,int,int)", "fifths(int)",
            "herd(int)", "frost(int,int,int,int,int,int)", "mark(int,int)", "keep(int)", "back(int)",
            "count(int)", "trace()");
    private static final Set<String> CONSTANTS = Set.of("BAD", "STATE", "FULL", "NONE", "NO");

    public static void main(String[] args) throws IOException {
        face();
        inside();
        source(Files.readString(Path.of("src/main/java/HarpFences.java")));
        DUE.end();
    }

    private static void face() {
        DUE.part("the face");
        Set<String> seen = new TreeSet<>();
        for (Method m : HarpFences.class.getDeclaredMethods()) {
            if (Modifier.isPrivate(m.getModifiers()) || m.isSynthetic()) continue;
            seen.add(signature(m));
            DUE.is(m + " is public", m.getModifiers(), Modifier.PUBLIC);
            boolean isLong = m.getReturnType() == long.class;
            DUE.is(m + " answers long", isLong ? 1 : 0, m.getName().equals("trace") ? 1 : 0);
            DUE.is(m + " answers a number", isLong || m.getReturnType() == int.class ? 1 : 0, 1);
        }
        DUE.is("the methods " + seen, seen.equals(FACE) ? 1 : 0, 1);
        Set<String> constants = new TreeSet<>();
        for (Field f : HarpFences.class.getDeclaredFields()) {
            if (!Modifier.isPrivate(f.getModifiers())) constants.add(f.getName());
        }
        DUE.is("the constants " + constants, constants.equals(CONSTANTS) ? 1 : 0, 1);
        Constructor<?>[] made = HarpFences.class.getDeclaredConstructors();
        DUE.is("constructors", made.length, 1);
        DUE.is("the constructor's numbers", made[0].getParameterCount(), 0);
        DUE.is("public and final", HarpFences.class.getModifiers(), Modifier.PUBLIC | Modifier.FINAL);
    }

    private static String signature(Method m) {
        String numbers = String.join(",", Arrays.stream(m.getParameterTypes()).map(Class::getName).toList());
        return m.getName() + "(" + numbers + ")";
    }

    private static void inside() {
        DUE.part("the classes inside");
        Set<String> names = new TreeSet<>();
        for (String signature : FACE) {
            names.add(signature.substring(0, signature.indexOf('(')));
        }
        Class<?>[] classes = HarpFences.class.getDeclaredClasses();
        DUE.is("not above twelve classes", classes.length <= 11 ? 1 : 0, 1);
        checkMembers(HarpFences.class, names);
        for (Class<?> c : classes) {
            DUE.is(c + " is static", Modifier.isStatic(c.getModifiers()) ? 1 : 0, 1);
            DUE.is(c + " is not public", Modifier.isPublic(c.getModifiers()) ? 1 : 0, 0);
            checkMembers(c, names);
        }
    }

    private static void checkMembers(Class<?> c, Set<String> names) {
        int held = 0;
        for (Field f : c.getDeclaredFields()) {
            if (Modifier.isStatic(f.getModifiers())) {
                DUE.is(f + " is final", Modifier.isFinal(f.getModifiers()) ? 1 : 0, 1);
            } else {
                held++;
            }
        }
        DUE.is(c + " has not above twenty fields", held <= 20 ? 1 : 0, 1);
        for (Method m : c.getDeclaredMethods()) {
            DUE.is(m + " takes not above seven", m.getParameterCount() <= 7 ? 1 : 0, 1);
            if (!Modifier.isPublic(m.getModifiers())) {
                DUE.is(m + " bears a public one's name", names.contains(m.getName()) ? 1 : 0, 0);
            }
        }
    }

    private static void source(String text) {
        DUE.part("the source");
        String code = text.replaceAll("(?s)/\\*.*?\\*/", "").replaceAll("//[^\n]*", "");
        none(code, "\\b(throw|throws|try|catch|finally|synchronized|assert|import|package|volatile|native)\\b");
        none(code, "->|::|\"");
        none(code, "\\b\\w+Exact\\b");
        none(code, "\\b(equals|hashCode|toString|System\\.(out|err|exit|nanoTime|currentTimeMillis))\\b");
        library(code);
        methodLengths(code);
        // Everything is made with the object: no call makes anything new.
        Matcher made = Pattern.compile("(?m)^.*\\bnew\\b.*$").matcher(code);
        while (made.find()) {
            String line = made.group();
            boolean held = line.matches("    (    )?(private )?(final )?[A-Z]?\\w+(\\[\\])? \\w+ = new .*");
            boolean inConstructor = line.strip().matches("(ahead|images)\\[i\\] = new \\w+\\(\\);");
            DUE.is("'" + line.strip() + "' is made in a constructor", held || inConstructor ? 1 : 0, 1);
        }
    }

    private static void library(String code) {
        Set<String> allowed = Set.of("Integer.bitCount", "Math.abs", "Math.max", "Math.min", "System.arraycopy");
        Matcher used = Pattern.compile("\\b[A-Z]\\w*[a-z]\\w*\\.\\w+(?=\\()").matcher(code);
        while (used.find()) {
            boolean own = used.group().equals("Paths.commonDivisor");
            DUE.is(used.group() + " may be used", own || allowed.contains(used.group()) ? 1 : 0, 1);
        }
    }

    private static void methodLengths(String code) {
        Matcher method = Pattern.compile("(?m)^(    |        )(?=\\S)[^=;\n]*\\) \\{\n(?s:.*?)^\\1\\}$").matcher(code);
        int methods = 0;
        while (method.find()) {
            methods++;
            String first = method.group().substring(0, method.group().indexOf('\n')).strip();
            DUE.is(first + " is short", method.group().lines().count() <= 60 ? 1 : 0, 1);
        }
        DUE.is("methods were found", methods > 60 ? 1 : 0, 1);
    }

    private static void none(String code, String pattern) {
        Matcher m = Pattern.compile(pattern).matcher(code);
        while (m.find()) {
            DUE.is("'" + m.group() + "' stands in the class", 1, 0);
        }
        DUE.is(pattern, 0, 0);
    }
}
