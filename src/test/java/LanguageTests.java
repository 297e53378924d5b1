import java.io.IOException;
import java.lang.reflect.Field;
import java.lang.reflect.Method;
import java.lang.reflect.Modifier;
import java.nio.file.Files;
import java.nio.file.Path;
import java.util.Arrays;
import java.util.HashSet;
import java.util.List;
import java.util.Set;
import java.util.TreeSet;
import java.util.regex.Matcher;
import java.util.regex.Pattern;

/** The document's face, and the rules of LANGUAGE.md that a program can look at. Runs in the project's root. */
public final class LanguageTests {
    private static final Path SOURCE = Path.of("src/main/java/CallNumbers.java");
    private static final String[] FACE = {
        "add 2", "ofCall 2", "limit 1", "plan 0", "kind 2", "adds 2", "ways 2", "ofPlan 2", "decoded 5",
        "call 1", "back 0", "running 1", "piece 3", "pieces 1", "snap 0", "ofSnap 2", "snapped 2", "same 2",
        "many 1"};
    private static final String[] CONSTANTS = {"UNKNOWN -1", "OUTSIDE -2", "STATE -3", "FULL -4", "NONE -9"};
    private static final String[] LEFT_OUT = {
        "\\bpackage\\b", "\\bthrows?\\b", "\\btry\\b", "\\bcatch\\b", "\\bfinally\\b", "\\bsynchronized\\b",
        "\\bassert\\b", "->", "::", "\\w+Exact\\b", "\\bSystem\\.(?!arraycopy)", "\\bThread\\b", "\\bObject\\b",
        "\\bRandom\\b", "\\bprotected\\b", "\\bnew \\w+\\([^)]*\\) \\{", "\\bstatic \\{", "\\bhashCode\\b",
        "\\btoString\\b", "\\bwhile \\(true\\)", "\\bfor \\(;;", "\\bString\\b.*[+]"};
    private static int wrong = 0;

    private static void due(String what, boolean holds) {
        if (!holds) {
            wrong++;
            System.out.println("not as due: " + what);
        }
    }

    private static void theFace() throws IllegalAccessException {
        Class<?> c = CallNumbers.class;
        due("the class is public and final", Modifier.isPublic(c.getModifiers()) && Modifier.isFinal(c.getModifiers()));
        due("one constructor, public, without arguments", c.getDeclaredConstructors().length == 1
            && c.getConstructors().length == 1 && c.getConstructors()[0].getParameterCount() == 0);
        Set<String> methods = new TreeSet<>();
        for (Method m : c.getDeclaredMethods()) {
            if (Modifier.isPublic(m.getModifiers())) {
                methods.add(m.getName() + " " + m.getParameterCount());
                due(m + " is of int alone", m.getReturnType() == int.class && !Modifier.isStatic(m.getModifiers())
                    && Arrays.stream(m.getParameterTypes()).allMatch(t -> t == int.class));
            } else {
                due(m + " is private", Modifier.isPrivate(m.getModifiers()));
            }
        }
        due("the methods are " + methods, methods.equals(new TreeSet<>(List.of(FACE))));
        Set<String> constants = new TreeSet<>();
        for (Field f : c.getDeclaredFields()) {
            if (Modifier.isPublic(f.getModifiers())) {
                constants.add(f.getName() + " " + f.get(null));
                due(f + " is a constant int", f.getType() == int.class && Modifier.isFinal(f.getModifiers())
                    && Modifier.isStatic(f.getModifiers()));
            } else {
                due(f + " is private", Modifier.isPrivate(f.getModifiers()));
            }
        }
        due("the constants are " + constants, constants.equals(new TreeSet<>(List.of(CONSTANTS))));
    }

    private static void classesInside() {
        Set<String> publicNames = new HashSet<>();
        for (String s : FACE) {
            publicNames.add(s.substring(0, s.indexOf(' ')));
        }
        Class<?>[] inside = CallNumbers.class.getDeclaredClasses();
        due("at most twelve classes", inside.length <= 11);
        for (Class<?> c : inside) {
            due(c + " is static and not public", Modifier.isStatic(c.getModifiers()) && !Modifier.isPublic(c.getModifiers()));
            for (Method m : c.getDeclaredMethods()) {
                due(m + " bears a public method's name", !publicNames.contains(m.getName()));
            }
        }
        for (Class<?> c : concat(inside, CallNumbers.class)) {
            int fields = 0;
            for (Field f : c.getDeclaredFields()) {
                due(f + " is final, as it is static", !Modifier.isStatic(f.getModifiers()) || Modifier.isFinal(f.getModifiers()));
                fields += Modifier.isStatic(f.getModifiers()) ? 0 : 1;
            }
            due(c + " has at most twenty fields", fields <= 20);
            for (Method m : c.getDeclaredMethods()) {
                due(m + " takes at most seven", m.getParameterCount() <= 7);
                due(m + " is no lambda's", !m.isSynthetic());
            }
        }
        int privateOnes = 0;
        for (Method m : CallNumbers.class.getDeclaredMethods()) {
            if (Modifier.isPrivate(m.getModifiers())) {
                privateOnes++;
                due(m + " bears a public method's name", !publicNames.contains(m.getName()));
            }
        }
        due("there are private methods to look at", privateOnes > 0);
    }

    private static Class<?>[] concat(Class<?>[] some, Class<?> one) {
        Class<?>[] all = Arrays.copyOf(some, some.length + 1);
        all[some.length] = one;
        return all;
    }

    private static void theSource() throws IOException {
        String text = Files.readString(SOURCE);
        String code = text.replaceAll("(?s)/\\*.*?\\*/", "").replaceAll("//[^\n]*", "").replaceAll("\"[^\"\n]*\"", "\"\"");
        for (String word : LEFT_OUT) {
            Matcher m = Pattern.compile(word).matcher(code);
            due("'" + word + "' is left out", !m.find());
        }
        Matcher imports = Pattern.compile("import ([^;]*);").matcher(code);
        while (imports.find()) {
            due("import " + imports.group(1), List.of("java.util.Arrays", "java.util.ArrayList", "java.util.List")
                .contains(imports.group(1)));
        }
        Matcher arrays = Pattern.compile("Arrays\\.(\\w+)\\(").matcher(code);
        while (arrays.find()) {
            due("Arrays." + arrays.group(1), List.of("copyOf", "copyOfRange", "fill").contains(arrays.group(1)));
        }
        due("plain signs alone", text.chars().allMatch(c -> c == '\n' || c >= 32 && c < 127));
        lengths(code.split("\n"));
    }

    private static void lengths(String[] lines) {
        Pattern head = Pattern.compile("( +)(public|private) .*\\) \\{");
        int methods = 0;
        for (int i = 0; i < lines.length; i++) {
            Matcher m = head.matcher(lines[i]);
            if (m.matches()) {
                methods++;
                int end = i;
                while (end < lines.length && !lines[end].equals(m.group(1) + "}")) {
                    end++;
                }
                due(lines[i].trim() + " is short", end - i <= 60);
            }
        }
        due("methods were found", methods > FACE.length);
    }

    public static void main(String[] args) throws IOException, IllegalAccessException {
        theFace();
        classesInside();
        theSource();
        System.out.println(wrong == 0 ? "the face and the language are as due" : wrong + " rules are broken");
        if (wrong != 0) {
            System.exit(1);
        }
    }
}
