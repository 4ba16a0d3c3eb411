import java.io.IOException;
import java.lang.reflect.InvocationTargetException;
import java.lang.reflect.Method;
import java.nio.file.Files;
import java.nio.file.Path;
import java.util.regex.Matcher;
import java.util.regex.Pattern;

/** The examples of README.md: each call there must answer what the comment behind it says. */
public final class ReadmeTest {
    private static final Pattern BLOCK = Pattern.compile("(?s)```java\n(.*?)```");
    private static final Pattern CALL = Pattern.compile("post\\.(\\w+)\\((.*?)\\); +// (throws \\w+|-?\\d+)(: .*)?");
    private static final Pattern TYPING = Pattern.compile("for \\(char c : \"(\\w+)\"\\.toCharArray\\(\\)\\) \\{");
    private static final Check CHECK = new Check();

    private HeldNotes post;

    public static void main(String[] args) throws IOException, IllegalAccessException {
        Matcher block = BLOCK.matcher(Files.readString(Path.of("README.md")));
        while (block.find()) {
            ReadmeTest example = new ReadmeTest();
            for (String line : block.group(1).split("\n")) {
                example.follow(line.trim());
            }
        }
        CHECK.finish("ReadmeTest");
    }

    private void follow(String line) throws IllegalAccessException {
        Matcher call = CALL.matcher(line);
        Matcher typing = TYPING.matcher(line);
        if (line.startsWith("HeldNotes post = new HeldNotes();")) {
            post = new HeldNotes();
        } else if (typing.matches()) {
            TextTest.type(post, typing.group(1));
        } else if (call.matches()) {
            CHECK.same(line, answer(call.group(1), call.group(2)), call.group(3));
        } else {
            // The body of the typing is done with its head.
            CHECK.same("known: " + line, line.isEmpty() || line.equals("post.append(c);") || line.equals("}") ? 1 : 0, 1);
        }
    }

    private String answer(String name, String args) throws IllegalAccessException {
        Method method = methodOf(name);
        Class<?>[] types = method.getParameterTypes();
        Object[] values = new Object[types.length];
        String[] words = args.split(", ");
        for (int i = 0; i < types.length; i++) {
            values[i] = valueOf(words[i], types[i]);
        }
        try {
            return method.invoke(post, values).toString();
        } catch (InvocationTargetException e) {
            return "throws " + e.getCause().getClass().getSimpleName();
        }
    }

    /** The names of the face are all different. */
    private static Method methodOf(String name) {
        for (Method method : HeldNotes.class.getMethods()) {
            if (method.getName().equals(name)) {
                return method;
            }
        }
        throw new IllegalArgumentException("README.md calls " + name + "(), which there is not");
    }

    private static Object valueOf(String word, Class<?> type) {
        if (type == boolean.class) {
            return Boolean.valueOf(word);
        }
        if (type == long.class) {
            return Long.valueOf(word.substring(0, word.length() - 1));
        }
        return Integer.valueOf(word);
    }
}
