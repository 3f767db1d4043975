import java.lang.reflect.Method;
import java.nio.file.Files;
import java.nio.file.Path;
import java.util.ArrayList;
import java.util.Arrays;
import java.util.List;
import java.util.regex.Matcher;
import java.util.regex.Pattern;

/** README.md tells how the class is used: its calls are made here, in their order, and must answer what it says. */
public final class ReadmeTest {
    private static final Checks C = new Checks();
    private static final Pattern TYPED = Pattern.compile("typeAll\\(town, ([01]), \"([^\"]*)\"\\);.*");
    private static final Pattern CALL = Pattern.compile("town\\.(\\w+)\\(([-\\d, ]*)\\);\\s*// (-?\\d+).*");
    /** The object is made in the example's first line. */
    private static final int BEHIND_MADE = 1;

    public static void main(String[] args) throws Exception {
        String page = Files.readString(Path.of("README.md"));
        example(page);
        everyCallIsNamed(page);
        C.end();
    }

    private static void example(String page) throws Exception {
        Matcher block = Pattern.compile("(?s)```java\n(.*?)```").matcher(page);
        if (!block.find()) {
            C.fail("README.md has no example");
            return;
        }
        TownBagpipes town = new TownBagpipes();
        String[] lines = block.group(1).split("\n");
        for (int i = BEHIND_MADE; i < lines.length; i++) {
            Matcher typed = TYPED.matcher(lines[i]);
            Matcher call = CALL.matcher(lines[i]);
            if (typed.matches()) {
                Checks.typeAll(town, Integer.parseInt(typed.group(1)), typed.group(2));
            } else if (call.matches()) {
                C.due("README.md: " + lines[i], answer(town, call.group(1), call.group(2)), Long.parseLong(call.group(3)));
            } else {
                C.fail("README.md: this line cannot be followed: " + lines[i]);
            }
        }
    }

    private static long answer(TownBagpipes town, String name, String numbers) throws Exception {
        List<Object> given = new ArrayList<>();
        for (String number : numbers.split(",")) {
            if (!number.isBlank()) given.add(Integer.parseInt(number.strip()));
        }
        Class<?>[] ints = new Class<?>[given.size()];
        Arrays.fill(ints, int.class);
        Number answer = (Number) TownBagpipes.class.getMethod(name, ints).invoke(town, given.toArray());
        return answer.longValue();
    }

    private static void everyCallIsNamed(String page) {
        for (Method m : TownBagpipes.class.getMethods()) {
            if (m.getDeclaringClass() == TownBagpipes.class) {
                C.due("README.md names " + m.getName(), page.contains("`" + m.getName() + "`") ? 1 : 0, 1);
            }
        }
    }
}
