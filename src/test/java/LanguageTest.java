import java.io.IOException;
import java.nio.file.Files;
import java.nio.file.Path;
import java.util.Set;
import java.util.regex.Matcher;
import java.util.regex.Pattern;

/** LANGUAGE.md, rule 4: what the class takes from the library. It reads the source, so it is run from the project's root. */
public final class LanguageTest {
    private static final Checks CHECKS = new Checks();
    private static final Path SOURCE = Path.of("src/main/java/WasmMerge.java");
    // those of the list that the class has use for; what is new is looked up in the rule before it is written here
    private static final Set<String> ALLOWED = Set.of("Integer.MAX_VALUE", "Integer.MIN_VALUE", "Integer.bitCount",
        "Integer.numberOfLeadingZeros", "Integer.numberOfTrailingZeros", "Integer.rotateLeft", "Integer.rotateRight",
        "Long.MAX_VALUE", "Long.MIN_VALUE", "Long.bitCount", "Long.numberOfLeadingZeros", "Long.numberOfTrailingZeros",
        "Long.rotateLeft", "Long.rotateRight", "Math.abs", "Math.max", "Math.min", "System.arraycopy", "Arrays.fill",
        "Arrays.copyOf", "Arrays.copyOfRange");

    private LanguageTest() {
    }

    public static void main(String[] args) throws IOException {
        String source = withoutComments(Files.readString(SOURCE));
        Matcher uses = Pattern.compile("\\b(Integer|Long|Short|Byte|Character|Boolean|Double|Float|Math|StrictMath|System"
            + "|Arrays|Objects|Collections|List|String|Thread|Runtime)\\s*\\.\\s*(\\w+)").matcher(source);
        while (uses.find()) {
            String use = uses.group(1) + "." + uses.group(2);
            CHECKS.same(use + " is on the list", ALLOWED.contains(use) ? 1 : 0, 1);
        }
        Matcher imports = Pattern.compile("\\bimport\\s+([\\w.\\s*]+);").matcher(source);
        while (imports.find()) {
            CHECKS.same("import of " + imports.group(1), imports.group(1).equals("java.util.Arrays") ? 1 : 0, 1);
        }
        CHECKS.same("a name with its package", Pattern.compile("(?<!import )\\bjava\\.").matcher(source).find() ? 1 : 0, 0);
        CHECKS.finish("LanguageTest");
    }

    private static String withoutComments(String source) {
        return source.replaceAll("(?s)/\\*.*?\\*/", " ").replaceAll("//[^\\n]*", " ");
    }
}
