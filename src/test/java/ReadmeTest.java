import java.io.IOException;
import java.lang.reflect.Method;
import java.lang.reflect.Modifier;
import java.nio.file.Files;
import java.nio.file.Path;

/** What README.md says of the use of the class holds. It is read from the directory that .ci/run works in. */
public final class ReadmeTest {
    private static final String[] EXAMPLE = {
        "FrequencyOffice office = new FrequencyOffice();",
        "int first = office.license(10, 10, 100);   // id 0, on channel 0 until day 100",
        "int second = office.license(15, 10, 50);   // id 1, at distance 5, on channel 4",
        "office.complain(first, second);            // their channels must be 4 apart from now on",
        "office.pass(50);                           // station 1 expires",
        "office.undo();                             // and is back",
    };

    private ReadmeTest() {
    }

    public static void main(String[] args) throws IOException {
        String readme = Files.readString(Path.of("README.md"));
        checkExample(readme);
        checkCalls(readme);
        Checks.end();
    }

    /** The lines are those of the page, so that neither changes without the other. */
    private static void checkExample(String readme) {
        String lines = "```java\n" + String.join("\n", EXAMPLE) + "\n```";
        Checks.due("the example stands in README.md", true, () -> readme.contains(lines));
        FrequencyOffice office = new FrequencyOffice();
        int first = office.license(10, 10, 100);
        Checks.due("the first id", 0, () -> first);
        Checks.due("the first channel", 0, () -> office.channelOf(first));
        Checks.due("the first expiry day", 100, () -> office.expiryOf(first));
        int second = office.license(15, 10, 50);
        Checks.due("the second id", 1, () -> second);
        Checks.due("at distance 5", 25, () -> office.squaredDistance(first, second));
        Checks.due("the second channel", 4, () -> office.channelOf(second));
        office.complain(first, second);
        Checks.due("4 apart from now on", 4, () -> office.separation(first, second));
        office.pass(50);
        Checks.due("station 1 expires", false, () -> office.exists(second));
        office.undo();
        Checks.due("and is back", true, () -> office.exists(second));
    }

    private static void checkCalls(String readme) {
        for (Method method : FrequencyOffice.class.getDeclaredMethods()) {
            if (Modifier.isPublic(method.getModifiers())) {
                String name = "`" + method.getName() + "`";
                Checks.due("README.md names " + name, true, () -> readme.contains(name));
            }
        }
    }
}
