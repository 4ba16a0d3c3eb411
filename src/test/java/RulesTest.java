import java.io.IOException;
import java.lang.reflect.Constructor;
import java.lang.reflect.Field;
import java.lang.reflect.Method;
import java.lang.reflect.Modifier;
import java.nio.file.Files;
import java.nio.file.Path;
import java.util.List;
import java.util.Set;
import java.util.TreeSet;
import java.util.regex.Matcher;
import java.util.regex.Pattern;

/** The face of the class, and those rules of LANGUAGE.md that can be looked at from outside. */
public final class RulesTest {
    private static final Check CHECK = new Check();

    public static void main(String[] args) throws IOException {
        Set<String> promised = promisedMethods();
        face(promised);
        names(promised);
        insideClasses();
        source();
        CHECK.finish("RulesTest");
    }

    private static void same(String what, Object got, Object want) {
        CHECK.same(what, got.toString(), want.toString());
    }

    /** The methods that the document's face has, as reflection writes them down, with their exceptions. */
    private static Set<String> promisedMethods() throws IOException {
        Set<String> methods = new TreeSet<>();
        Matcher line = Pattern.compile("(?m)^    (public int \\w+)\\((.*)\\)( throws .*)?;$")
                .matcher(Files.readString(Document.PLACE));
        while (line.find()) {
            String types = line.group(2).replaceAll("(\\w+) \\w+", "$1").replace(", ", ",");
            String exceptions = line.group(3) == null ? "" : line.group(3).replace(", ", ",");
            methods.add(line.group(1) + "(" + types + ")" + exceptions);
        }
        same("the methods of the document's face", methods.size(), 26);
        return methods;
    }

    private static void face(Set<String> promised) {
        Set<String> found = new TreeSet<>();
        for (Method method : HeldNotes.class.getDeclaredMethods()) {
            if (!Modifier.isPrivate(method.getModifiers())) {
                found.add(method.toString().replace("HeldNotes.", "").replace("java.lang.", ""));
            }
        }
        same("the methods", found, promised);
        for (Field field : HeldNotes.class.getDeclaredFields()) {
            boolean isConstant = field.getName().equals("NONE");
            same(field + " is private", Modifier.isPrivate(field.getModifiers()), !isConstant);
            same(field + " is final", Modifier.isFinal(field.getModifiers()), true);
        }
        same("NONE", HeldNotes.NONE, -1);
        Constructor<?>[] all = HeldNotes.class.getDeclaredConstructors();
        same("one constructor", all.length, 1);
        same("it is public", Modifier.isPublic(all[0].getModifiers()), true);
        same("it has no parameters", all[0].getParameterCount(), 0);
        same("a public final class", Modifier.toString(HeldNotes.class.getModifiers()), "public final");
        same("of no package", HeldNotes.class.getPackageName().isEmpty(), true);
    }

    /** Rule 1: no private method bears the name of a public one; here none of a class inside does either. */
    private static void names(Set<String> promised) {
        Set<String> publicNames = new TreeSet<>();
        for (String method : promised) {
            publicNames.add(method.substring("public int ".length(), method.indexOf('(')));
        }
        for (Class<?> inside : HeldNotes.class.getDeclaredClasses()) {
            for (Method method : inside.getDeclaredMethods()) {
                same(method + " has a name of its own", publicNames.contains(method.getName()), false);
            }
        }
        for (Method method : HeldNotes.class.getDeclaredMethods()) {
            boolean isPrivate = Modifier.isPrivate(method.getModifiers());
            same(method + " has a name of its own", publicNames.contains(method.getName()), !isPrivate);
            same(method + " has few parameters", method.getParameterCount() <= 7, true);
        }
    }

    private static void insideClasses() {
        Class<?>[] inside = HeldNotes.class.getDeclaredClasses();
        same("few classes inside", inside.length <= 12, true);
        for (Class<?> each : inside) {
            same(each + " is static", Modifier.isStatic(each.getModifiers()), true);
            same(each + " is private", Modifier.isPrivate(each.getModifiers()), true);
            same(each + " has few fields", each.getDeclaredFields().length <= 20, true);
        }
    }

    private static void source() throws IOException {
        List<String> lines = Files.readAllLines(Path.of("src/main/java/HeldNotes.java"));
        String all = String.join("\n", lines);
        String code = all.replaceAll("/\\*(?s:.*?)\\*/", "").replaceAll("//.*", "");
        for (String no : new String[] {"\\bimport\\b", "\\bpackage\\b", "\\bcatch\\b", "\\btry\\b", "\\bfinally\\b",
            "->", "::", "\\bsynchronized\\b", "\\bassert\\b", "\\bvar\\b", "System\\.(?!arraycopy)", "\"",
            "\\bequals\\b", "\\bhashCode\\b", "\\btoString\\b", "\\bprotected\\b", "Exact\\("}) {
            Matcher m = Pattern.compile(no).matcher(code);
            same("no " + no + " in the code", m.find(), false);
        }
        same("only its own signs", all.chars().allMatch(c -> c == '\n' || c >= 32 && c < 127), true);
        int begin = 0;
        for (int i = 0; i < lines.size(); i++) {
            same("line " + (i + 1) + " is not too long", lines.get(i).length() <= 120, true);
            if (lines.get(i).matches("( {4}| {8})[a-z].*\\{") && !lines.get(i).contains(" class ")) {
                begin = i;
            }
            if (lines.get(i).matches("( {4}| {8})\\}")) {
                same("the method that ends in line " + (i + 1) + " is short", i - begin <= 60, true);
            }
        }
    }
}
