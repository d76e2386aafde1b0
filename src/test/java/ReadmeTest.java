import java.io.IOException;
import java.io.UncheckedIOException;
import java.lang.reflect.Method;
import java.lang.reflect.Modifier;
import java.nio.file.DirectoryStream;
import java.nio.file.Files;
import java.nio.file.Path;

/** README.md: its example does what its comments say, and it names every call and every test. */
public final class ReadmeTest {
    public static void main(String[] args) {
        example();
        names();
        Check.end();
    }

    private static void example() {
        BootChain chain = new BootChain();
        chain.payload(0x6C6F6164L, 4);
        Check.equal("loader", chain.update(0, 3, 0), 1);
        chain.payload(0x6B65726EL, 4);
        Check.equal("kernel", chain.update(1, 5, 0), 3);
        Check.equal("boot", chain.boot(), 0);
        int[] loader = Tools.registerAfter(Tools.measured(0, 3, 4, 0x6C6F6164));
        int[] kernel = Tools.registerAfter(Tools.measured(1, 5, 4, 0x6B65726E));
        int[] key = {9, 10, 11, 12};
        int[] quote = Tools.hashOf(Tools.join(key, loader, kernel, new int[] {77}));
        Check.equal("proof", chain.quote(77, 0), quote[0]);
        chain.confirm();
        Check.equal("slots 1 and 3 are active", chain.state(), 0x11);
        Check.equal("loaders below 3 are refused", chain.counter(0), 3);
        Check.equal("kernels below 5 are refused", chain.counter(1), 5);
    }

    private static void names() {
        try (DirectoryStream<Path> tests =
                Files.newDirectoryStream(Path.of("src/test/java"), "*.java")) {
            String readme = Files.readString(Path.of("README.md"));
            for (Path test : tests) {
                String name = test.getFileName().toString().replace(".java", "");
                Check.holds("README.md names " + name, readme.contains("`" + name + "`"));
            }
            for (Method call : BootChain.class.getDeclaredMethods()) {
                if (Modifier.isPublic(call.getModifiers())) {
                    String start = "| `" + call.getName() + "(";
                    Check.holds("README.md tells " + call.getName(), readme.contains(start));
                }
            }
        } catch (IOException e) {
            throw new UncheckedIOException(e);
        }
    }
}
