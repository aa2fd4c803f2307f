import java.io.IOException;
import java.lang.reflect.Constructor;
import java.lang.reflect.Field;
import java.lang.reflect.Method;
import java.lang.reflect.Modifier;
import java.nio.file.Files;
import java.nio.file.Path;
import java.util.Set;
import java.util.TreeSet;
import java.util.regex.Matcher;
import java.util.regex.Pattern;

/**
 * LANGUAGE.md, rules 1 and 4: the face of the class, and what it takes from the library. It reads the source, so it is
 * run from the project's root.
 */
public final class LanguageTest {
    private static final Checks CHECKS = new Checks();
    private static final Path SOURCE = Path.of("src/main/java/WasmMerge.java");
    // those of the list that the class has use for; what is new is looked up in the rule before it is written here
    private static final Set<String> ALLOWED = Set.of("Integer.MAX_VALUE", "Integer.MIN_VALUE", "Integer.bitCount",
        "Integer.numberOfLeadingZeros", "Integer.numberOfTrailingZeros", "Integer.rotateLeft", "Integer.rotateRight",
        "Long.MAX_VALUE", "Long.MIN_VALUE", "Long.bitCount", "Long.numberOfLeadingZeros", "Long.numberOfTrailingZeros",
        "Long.rotateLeft", "Long.rotateRight", "Math.abs", "Math.max", "Math.min", "System.arraycopy", "Arrays.fill",
        "Arrays.copyOf", "Arrays.copyOfRange");

    private LanguageTest() {
    }

    public static void main(String[] args) throws IOException {
        face();
        library();
        CHECKS.finish("LanguageTest");
    }

    private static void face() {
        Class<?> face = WasmMerge.class;
        CHECKS.same("public and final", face.getModifiers() & (Modifier.PUBLIC | Modifier.FINAL),
            Modifier.PUBLIC | Modifier.FINAL);
        Set<String> seen = new TreeSet<>();
        for (Method method : face.getDeclaredMethods()) {
            if (!Modifier.isPrivate(method.getModifiers())) {
                seen.add(method.toString());
            }
        }
        for (Constructor<?> constructor : face.getDeclaredConstructors()) {
            seen.add(constructor.toString());
        }
        for (Field field : face.getDeclaredFields()) {
            if (!Modifier.isPrivate(field.getModifiers())) {
                seen.add(field.toString());
            }
        }
        CHECKS.sameText("the face", seen.toString(), due().toString());
        for (Method method : face.getDeclaredMethods()) {
            boolean bearsName = Modifier.isPrivate(method.getModifiers()) && isOfFace(method.getName());
            CHECKS.same("a private method " + method.getName(), bearsName ? 1 : 0, 0);
        }
        for (Class<?> inside : face.getDeclaredClasses()) {
            CHECKS.same(inside + " is static", inside.getModifiers() & Modifier.STATIC, Modifier.STATIC);
            CHECKS.same(inside + " is for the class alone", inside.getModifiers() & (Modifier.PUBLIC | Modifier.PROTECTED), 0);
        }
    }

    private static boolean isOfFace(String name) {
        for (String method : due()) {
            if (method.contains("WasmMerge." + name + "(")) {
                return true;
            }
        }
        return false;
    }

    private static Set<String> due() {
        String state = "java.lang.IllegalStateException";
        String argument = "java.lang.IllegalArgumentException";
        String index = "java.lang.IndexOutOfBoundsException";
        String fault = "java.lang.UnsupportedOperationException";
        String trap = "java.lang.ArithmeticException";
        String[][] rows = {{"int", "feed(int,int,int,int,int)", state}, {"int", "end(int)", argument},
            {"int", "add()", state, fault}, {"int", "clear()"}, {"int", "merge()", state, fault},
            {"int", "begin()", state, trap}, {"int", "argument(long)", state},
            {"long", "call(int,int)", state, index, argument, trap}, {"int", "fault()"}, {"int", "trap()"},
            {"long", "take()"}, {"int", "memory(int)", state}, {"long", "global(int,int)", state, index, argument},
            {"int", "told(int,int)", index, argument}, {"int", "count(int)", state, argument}, {"int", "check()", state}};
        Set<String> all = new TreeSet<>();
        all.add("public WasmMerge()");
        for (String[] row : rows) {
            StringBuilder text = new StringBuilder("public " + row[0] + " WasmMerge." + row[1]);
            for (int i = 2; i < row.length; i++) {
                text.append(i == 2 ? " throws " : ",").append(row[i]);
            }
            all.add(text.toString());
        }
        return all;
    }

    private static void library() throws IOException {
        String source = withoutComments(Files.readString(SOURCE));
        Matcher uses = Pattern.compile("\\b(Integer|Long|Short|Byte|Character|Boolean|Double|Float|Math|StrictMath|System"
            + "|Arrays|Objects|Collections|List|String|Thread|Runtime)\\s*\\.\\s*(\\w+)").matcher(source);
        while (uses.find()) {
            String use = uses.group(1) + "." + uses.group(2);
            CHECKS.same(use + " is on the list", ALLOWED.contains(use) ? 1 : 0, 1);
        }
        Matcher imports = Pattern.compile("\\bimport\\s+([\\w.\\s*]+);").matcher(source);
        while (imports.find()) {
            CHECKS.same("import of " + imports.group(1), imports.group(1).equals("java.util.Arrays") ? 1 : 0, 1);
        }
        CHECKS.same("a name with its package", Pattern.compile("(?<!import )\\bjava\\.").matcher(source).find() ? 1 : 0, 0);
    }

    private static String withoutComments(String source) {
        return source.replaceAll("(?s)/\\*.*?\\*/", " ").replaceAll("//[^\\n]*", " ");
    }
}
