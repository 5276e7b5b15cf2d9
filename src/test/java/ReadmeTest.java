import java.io.IOException;
import java.lang.reflect.Method;
import java.lang.reflect.Modifier;
import java.nio.file.Files;
import java.nio.file.Path;

/** README.md: what its example says is so, and it names every call of the face. */
public final class ReadmeTest {
    private static final String FENCE = "```";

    public static void main(String[] args) throws IOException {
        example();
        String readme = Files.readString(Path.of("README.md"));
        String test = Files.readString(Path.of("src", "test", "java", "ReadmeTest.java"));
        exampleIsTheOneHere(readme, test);
        everyCallIsNamed(readme);
        Expect.end();
    }

    private static void example() {
        CellKeeper keeper = new CellKeeper(1, 4, 100, 3, 10);
        long a = 0x0E74_0E74_0E74_0E74L;
        long b = 0x0E74_0E74_0000_0000L;
        b = b | keeper.seal(a, b);
        boolean used = keeper.reply(0, a, b);
        Expect.same("used", used, true);
        keeper.set(5000);
        keeper.bus(22200);
        keeper.want(true);
        int state = keeper.tick(4);
        Expect.same("state", state, 3);

        keeper.current(12.5);
        keeper.tick(6);
        double charge = keeper.charge();
        Expect.near("charge", charge, 4925);
        int percent = keeper.percent();
        Expect.same("percent", percent, 49);
        double most = keeper.allowed(false);
        Expect.near("most", most, 300);

        keeper.reply(0, a, b);
        keeper.cut(7);
        keeper.tick(10);
        boolean off = keeper.off();
        Expect.same("off", off, true);
        int time = keeper.power();
        Expect.same("time", time, 10);
        double kept = keeper.charge();
        Expect.near("kept", kept, 4925);
    }

    /** Each line of README's example, without the words behind it, is one that ran above. */
    private static void exampleIsTheOneHere(String readme, String test) {
        String[] parts = readme.split(FENCE);
        int lines = 0;
        for (int i = 1; i < parts.length; i += 2) {
            if (parts[i].startsWith("java\n")) {
                for (String line : parts[i].substring(5).split("\n")) {
                    String code = line.replaceAll("//.*", "").trim();
                    lines += code.isEmpty() ? 0 : 1;
                    Expect.note(test.contains(code), "README.md has a line that is not tested: " + code);
                }
            }
        }
        Expect.note(lines > 10, "README.md has " + lines + " lines of an example");
    }

    private static void everyCallIsNamed(String readme) {
        for (Method method : CellKeeper.class.getDeclaredMethods()) {
            boolean told = readme.contains("`" + method.getName() + "(");
            Expect.note(told || !Modifier.isPublic(method.getModifiers()), "README.md does not name " + method);
        }
    }
}
