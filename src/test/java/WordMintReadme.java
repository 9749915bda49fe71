import java.io.IOException;
import java.lang.reflect.Method;
import java.nio.file.Files;
import java.nio.file.Path;
import java.util.regex.Matcher;
import java.util.regex.Pattern;

/** Makes the calls of README.md's example and compares the answers that are written behind them. */
public final class WordMintReadme {
    private static final Pattern TELL = Pattern.compile(" *tell\\(desk, \"(.*)\"\\);");
    private static final Pattern CALL = Pattern.compile(" *desk\\.(\\w+)\\(([-0-9, ]*)\\); +// ([^:]+): .*");

    private static void tell(WordMint desk, String text) {
        for (int i = 0; i < text.length(); i += 20) {
            int[] five = new int[5];
            for (int j = 0; j < 20; j++) {
                int c = i + j < text.length() ? text.charAt(i + j) : ' ';
                five[j / 4] = five[j / 4] << 8 | c;
            }
            desk.feed(five[0], five[1], five[2], five[3], five[4]);
        }
    }

    private static Method methodNamed(String name) {
        for (Method m : WordMint.class.getMethods()) {
            if (m.getName().equals(name) && m.getDeclaringClass() == WordMint.class) {
                return m;
            }
        }
        throw new IllegalStateException("README.md calls " + name + ", which is not there");
    }

    private static Object answer(WordMint desk, String name, String list) throws ReflectiveOperationException {
        Method m = methodNamed(name);
        String[] parts = list.isEmpty() ? new String[0] : list.split(", ");
        Object[] arguments = new Object[parts.length];
        for (int i = 0; i < parts.length; i++) {
            boolean isLong = m.getParameterTypes()[i] == long.class;
            arguments[i] = isLong ? (Object) Long.valueOf(parts[i]) : (Object) Integer.valueOf(parts[i]);
        }
        return m.invoke(desk, arguments);
    }

    public static void main(String[] args) throws IOException, ReflectiveOperationException {
        WordMint desk = new WordMint();
        boolean found = false;
        for (String line : Files.readAllLines(Path.of("README.md"))) {
            Matcher told = TELL.matcher(line);
            Matcher call = CALL.matcher(line);
            if (told.matches()) {
                tell(desk, told.group(1));
            } else if (call.matches()) {
                found = true;
                Due.same(line.trim(), call.group(3), answer(desk, call.group(1), call.group(2)).toString());
            } else {
                // a call that this test can't read must not pass for one that holds
                Due.same("can't be read: " + line, false, line.startsWith("    desk.") || line.startsWith("    tell("));
            }
        }
        Due.same("an example is found", true, found);
        Due.end("README.md's example is as due");
    }
}
