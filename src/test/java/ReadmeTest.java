import java.lang.reflect.Method;
import java.lang.reflect.Modifier;
import java.nio.file.Files;
import java.nio.file.Path;
import java.util.List;
import java.util.Map;
import java.util.regex.Matcher;
import java.util.regex.Pattern;

/** README.md tells what is so: its examples are asked call by call, and it names all that it is to name. */
public final class ReadmeTest {
    private static final Pattern NEW_ROOM = Pattern.compile("HereMiss room = new HereMiss\\(\\);");
    private static final Pattern EXAMPLE = Pattern.compile("room\\.(\\w+)\\(([^)]*)\\); +// ([\\w.-]+)(:.*)?");
    private static final Map<String, Long> NAMED = Map.of(
        "BAD", -1L, "NOT", -2L, "FULL", -3L, "STATE", -5L, "VOID", -2000000000L, "Long.MIN_VALUE", Long.MIN_VALUE);

    public static void main(String[] args) throws Exception {
        Path readme = Path.of("README.md");
        examples(Files.readAllLines(readme));
        namesAll(Files.readString(readme));
        Due.end();
    }

    private static void examples(List<String> lines) {
        Asked room = null;
        boolean inJava = false;
        int asked = 0;
        for (String line : lines) {
            Matcher example = EXAMPLE.matcher(line);
            if (line.startsWith("```")) {
                inJava = line.equals("```java");
            } else if (inJava && NEW_ROOM.matcher(line).matches()) {
                room = new Asked(new HereMiss());
            } else if (inJava && room != null && example.matches()) {
                String call = example.group(1) + numbers(example.group(2));
                Due.due("README: " + call, room.ask(call), answer(example.group(3)));
                asked++;
            } else if (inJava) {
                Due.due("README: an example that can't be asked: " + line, 0, 1);
            }
        }
        Due.due("README has examples", asked > 0 ? 1 : 0, 1);
    }

    /** The arguments, each with a blank ahead; a letter becomes its number. */
    private static String numbers(String arguments) {
        StringBuilder numbers = new StringBuilder();
        for (String argument : arguments.isEmpty() ? new String[0] : arguments.split(", ")) {
            numbers.append(' ');
            if (argument.startsWith("'")) {
                numbers.append((int) argument.charAt(1));
            } else {
                numbers.append(argument);
            }
        }
        return numbers.toString();
    }

    private static long answer(String told) {
        return NAMED.containsKey(told) ? NAMED.get(told) : Long.parseLong(told);
    }

    private static void namesAll(String readme) {
        for (Method call : HereMiss.class.getDeclaredMethods()) {
            if (Modifier.isPublic(call.getModifiers())) {
                Due.due("README names " + call.getName(), readme.contains("`" + call.getName() + "`") ? 1 : 0, 1);
            }
        }
        for (Map.Entry<String, Long> refusal : NAMED.entrySet()) {
            String row = "| " + refusal.getValue() + " | `" + refusal.getKey() + "` |";
            Due.due("README tells " + refusal.getKey(), readme.contains(row) ? 1 : 0, 1);
        }
        for (int refusal = -14; refusal <= -11; refusal++) {
            Due.due("README tells " + refusal, readme.contains("| " + refusal + " | |") ? 1 : 0, 1);
        }
        Due.due("README tells for how many calls", readme.contains("at most 512 calls") ? 1 : 0, 1);
        Due.due("README tells how the tests are run", readme.contains("`.ci/run`") ? 1 : 0, 1);
    }
}
