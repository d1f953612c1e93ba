import java.io.IOException;
import java.lang.management.ManagementFactory;
import java.lang.reflect.Constructor;
import java.lang.reflect.Field;
import java.lang.reflect.Method;
import java.lang.reflect.Modifier;
import java.nio.file.Files;
import java.nio.file.Path;
import java.util.Arrays;
import java.util.List;
import java.util.Set;
import java.util.TreeSet;
import java.util.regex.Matcher;
import java.util.regex.Pattern;

/** The public face, the rules of LANGUAGE.md that can be read off, and the room that calls take. */
public final class ChainMovesRules {
    private static final List<String> FACE = List.of(
            "int model(int, int, int, int)", "int weight(int, int)", "int state(int, int, int, int)",
            "int value(int, int)", "int move(int, int, int)", "int odds(int, int, int)",
            "int chance(int, int, int, int)", "long row(int, int, int, int)", "int keeps(int)",
            "int goesBack(int)", "int reach(int, int)", "int run(int, int, int, long)", "int trace(int)",
            "int visits(int)", "int refused()", "long together(int, int)", "int count(int)");
    private static final Set<String> CONSTANTS = Set.of("BAD", "STATE", "FULL", "LONG", "DEEP");
    private static final List<String> FORBIDDEN = List.of("\\bthrow\\b", "\\bthrows\\b", "\\btry\\b",
            "\\bcatch\\b", "\\bsynchronized\\b", "\\bassert\\b", "->", "::", "Exact\\b", "\\bhashCode\\b",
            "\\btoString\\b", "\\bpackage\\b", "\\bSystem\\.(?!arraycopy)", "\\bMath\\.random\\b", "\\bnew Random\\b");
    private static final Path SOURCE = Path.of("src/main/java/ChainMoves.java");

    private static int wrong = 0;

    private static void must(boolean holds, String what) {
        if (!holds) {
            wrong++;
            System.out.println("not as due: " + what);
        }
    }

    public static void main(String[] args) throws IOException {
        face();
        classesInside();
        words();
        lengths();
        room();
        System.out.println(wrong == 0 ? "all rules are kept" : wrong + " rules are not kept");
        if (wrong != 0) {
            System.exit(1);
        }
    }

    private static void face() {
        must(Modifier.isPublic(ChainMoves.class.getModifiers()), "the class is public");
        must(Modifier.isFinal(ChainMoves.class.getModifiers()), "the class is final");
        Set<String> open = new TreeSet<>();
        for (Method method : ChainMoves.class.getDeclaredMethods()) {
            if (!Modifier.isPrivate(method.getModifiers())) {
                must(Modifier.isPublic(method.getModifiers()), "public or private: " + method);
                open.add(signature(method));
            }
        }
        must(open.equals(new TreeSet<>(FACE)), "the methods of the face, but " + open);
        Constructor<?>[] made = ChainMoves.class.getDeclaredConstructors();
        must(made.length == 1 && made[0].getParameterCount() == 0 && Modifier.isPublic(made[0].getModifiers()),
                "one public constructor without parameters");
        for (Field field : ChainMoves.class.getDeclaredFields()) {
            boolean isConstant = CONSTANTS.contains(field.getName());
            must(isConstant ? Modifier.isPublic(field.getModifiers()) : Modifier.isPrivate(field.getModifiers()),
                    "the face of field " + field.getName());
        }
    }

    private static String signature(Method method) {
        String parameters = Arrays.toString(Arrays.stream(method.getParameterTypes())
                .map(Class::getSimpleName).toArray());
        return method.getReturnType() + " " + method.getName() + "("
                + parameters.substring(1, parameters.length() - 1) + ")";
    }

    private static void classesInside() {
        Set<String> names = new TreeSet<>();
        FACE.forEach(line -> names.add(line.substring(line.indexOf(' ') + 1, line.indexOf('('))));
        Class<?>[] inside = ChainMoves.class.getDeclaredClasses();
        must(inside.length <= 12, "at most twelve classes");
        for (Class<?> one : inside) {
            must(Modifier.isStatic(one.getModifiers()), "static: " + one);
            must(!Modifier.isPublic(one.getModifiers()) && !Modifier.isProtected(one.getModifiers()),
                    "not open: " + one);
            plainClass(one, names);
        }
        plainClass(ChainMoves.class, names);
    }

    private static void plainClass(Class<?> one, Set<String> names) {
        int fields = 0;
        for (Field field : one.getDeclaredFields()) {
            boolean isStatic = Modifier.isStatic(field.getModifiers());
            fields += isStatic ? 0 : 1;
            must(!isStatic || Modifier.isFinal(field.getModifiers()), "final, as static: " + field);
        }
        must(fields <= 20, "at most twenty fields in " + one);
        for (Method method : one.getDeclaredMethods()) {
            must(method.getParameterCount() <= 7, "at most seven parameters: " + method);
            boolean isPrivate = Modifier.isPrivate(method.getModifiers());
            must(!isPrivate || !names.contains(method.getName()), "a name of its own: " + method);
        }
    }

    private static String code() throws IOException {
        String text = Files.readString(SOURCE);
        return text.replaceAll("(?s)/\\*.*?\\*/", "").replaceAll("//[^\n]*", "");
    }

    private static void words() throws IOException {
        String code = code();
        for (String word : FORBIDDEN) {
            must(!Pattern.compile(word).matcher(code).find(), "without " + word);
        }
        Matcher imports = Pattern.compile("import ([^;]*);").matcher(code);
        while (imports.find()) {
            must(imports.group(1).equals("java.util.Arrays"), "no import of " + imports.group(1));
        }
    }

    /** Reads where methods begin and end off the way in which the source is set in. */
    private static void lengths() throws IOException {
        String begins = "^( {4}| {8})(public|private) [^=;]*\\{$";
        String start = null;
        int length = 0;
        String end = "";
        for (String line : Files.readString(SOURCE).split("\n")) {
            if (line.matches(begins) && !line.contains(" class ")) {
                start = line.trim();
                length = 0;
                end = line.substring(0, line.indexOf('p')) + "}";
            }
            length++;
            if (line.equals(end)) {
                must(length <= 60, "at most sixty lines: " + start);
            }
        }
        must(start != null, "methods are found in the source");
    }

    /** All is made in the constructor: what 512 of the dearest calls make beyond it is next to nothing. */
    private static void room() {
        com.sun.management.ThreadMXBean bean =
                (com.sun.management.ThreadMXBean) ManagementFactory.getThreadMXBean();
        dearCalls(new ChainMoves());
        ChainMoves x = new ChainMoves();
        long before = bean.getCurrentThreadAllocatedBytes();
        dearCalls(x);
        long made = bean.getCurrentThreadAllocatedBytes() - before;
        must(made < 100_000, "512 calls make no objects, but they made " + made + " bytes");
    }

    private static void dearCalls(ChainMoves x) {
        x.model(2, 2, 2, 2);
        for (int place = 0; place < 4; place++) {
            x.move(place % 2 == 0 ? 0 : 4, place, 0);
        }
        x.move(6, 0, 1);
        x.move(6, 2, 3);
        x.move(6, 4, 5);
        for (int i = 0; i < 84; i++) {
            x.weight(i % 16, 1 + i % 5);
            x.keeps(6);
            x.goesBack(6);
            x.reach(6, i % 16);
            x.run(6, i % 16, 200, i);
            x.together(i % 4, i);
        }
    }
}
