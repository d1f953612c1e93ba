import java.io.IOException;
import java.lang.reflect.Method;
import java.lang.reflect.Modifier;
import java.nio.file.Files;
import java.nio.file.Path;
import java.util.Arrays;
import java.util.Set;
import java.util.TreeSet;
import java.util.regex.Matcher;
import java.util.regex.Pattern;

/** Makes the calls of README.md as they stand there, each with the answer that stands behind it. */
public final class ChainMovesReadme {
    private static final Pattern EXAMPLE = Pattern.compile("```java\n(.*?)```", Pattern.DOTALL);
    private static final Pattern CALL = Pattern.compile("chain\\.(\\w+)\\(([-\\d, ]*)\\); +// (-?\\d+): .+");

    public static void main(String[] args) throws IOException {
        Matcher example = EXAMPLE.matcher(Files.readString(Path.of("README.md")));
        Chain.sentence("README.md's example");
        Chain.must(example.find(), "there is none");
        Set<String> called = callEach(example.group(1).lines().skip(1).toArray(String[]::new));
        Chain.must(called.equals(face()), "it calls " + called + ", the face has " + face());
        Chain.end();
    }

    private static Set<String> callEach(String[] lines) {
        Chain chain = new Chain();
        Set<String> called = new TreeSet<>();
        for (String line : lines) {
            Matcher call = CALL.matcher(line);
            if (!call.matches()) {
                Chain.must(false, "no call with its answer: " + line);
                continue;
            }
            chain.due(Long.parseLong(call.group(3)), call.group(1), numbers(call.group(2)));
            called.add(call.group(1));
        }
        return called;
    }

    private static long[] numbers(String list) {
        return Arrays.stream(list.split(",")).map(String::trim).filter(n -> !n.isEmpty())
                .mapToLong(Long::parseLong).toArray();
    }

    private static Set<String> face() {
        Set<String> names = new TreeSet<>();
        for (Method method : ChainMoves.class.getDeclaredMethods()) {
            if (Modifier.isPublic(method.getModifiers())) {
                names.add(method.getName());
            }
        }
        return names;
    }
}
