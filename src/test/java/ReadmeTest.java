import java.lang.reflect.Method;
import java.nio.file.Files;
import java.nio.file.Path;
import java.util.regex.Matcher;
import java.util.regex.Pattern;

/** The calls that README.md shows, in their order on one object, answer what README.md says. */
public final class ReadmeTest extends Checks {
    private static final Pattern BLOCK = Pattern.compile("(?s)```java\n(.*?)```");
    private static final Pattern CALL = Pattern.compile("x\\.(\\w+)\\((.*)\\); +// (-?\\d+)\\b.*");
    private static final String MAKING = "FordQuestions x = new FordQuestions();";

    private static int[] numbersOf(String told) {
        if (told.isEmpty()) return new int[0];
        // a letter in quotes may be the comma itself
        if (told.startsWith("'")) return new int[] {told.charAt(1)};
        String[] parts = told.split(", ");
        int[] numbers = new int[parts.length];
        for (int k = 0; k < parts.length; k++) numbers[k] = Integer.parseInt(parts[k]);
        return numbers;
    }

    private static int call(FordQuestions x, String name, int[] numbers) throws Exception {
        Class<?>[] types = new Class<?>[numbers.length];
        Object[] given = new Object[numbers.length];
        for (int k = 0; k < numbers.length; k++) {
            types[k] = int.class;
            given[k] = numbers[k];
        }
        Method method = FordQuestions.class.getMethod(name, types);
        return (Integer) method.invoke(x, given);
    }

    public static void main(String[] args) throws Exception {
        FordQuestions x = new FordQuestions();
        Matcher blocks = BLOCK.matcher(Files.readString(Path.of("README.md")));
        int calls = 0;
        while (blocks.find()) {
            for (String line : blocks.group(1).split("\n")) {
                if (line.equals(MAKING)) continue;
                Matcher told = CALL.matcher(line);
                if (!told.matches()) {
                    due("README.md has a line that can't be run: " + line, 0, 1);
                    continue;
                }
                calls++;
                due("README.md: " + line, call(x, told.group(1), numbersOf(told.group(2))), Integer.parseInt(told.group(3)));
            }
        }
        due("README.md shows calls", calls > 0 ? 1 : 0, 1);
        finish();
    }
}
