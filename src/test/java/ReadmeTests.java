import java.io.IOException;
import java.lang.reflect.InvocationTargetException;
import java.lang.reflect.Method;
import java.nio.file.Files;
import java.nio.file.Path;
import java.util.HashMap;
import java.util.Map;
import java.util.regex.Matcher;
import java.util.regex.Pattern;

/** Runs the calls that README.md tells, each held against the answer that stands behind it there. */
public final class ReadmeTests {
    private static final Pattern FED = Pattern.compile("\"([^\"]*)\"\\.toCharArray\\(\\)");
    private static final Pattern CALL =
        Pattern.compile("(?:int (\\w+) = )?tally\\.(\\w+)\\(([^)]*)\\);\\s*// (-?\\d+): .+");
    // What is fed is told by the line ahead of these, and has no answers.
    private static final Pattern SILENT =
        Pattern.compile("|EvenTally tally = new EvenTally\\(\\);|\\s+tally\\.feed\\(sign\\);|}");
    private static final Map<String, Integer> NAMES = new HashMap<>();
    private static int asked = 0;
    private static int wrong = 0;

    public static void main(String[] args) throws IOException {
        String text = Files.readString(Path.of("README.md"));
        Matcher block = Pattern.compile("(?s)```java\n(.*?)```").matcher(text);
        EvenTally tally = new EvenTally();
        while (block.find()) {
            for (String line : block.group(1).split("\n")) {
                run(tally, line);
            }
        }
        need(asked >= 10, "README.md has a run of calls");
        System.out.println("ReadmeTests: " + asked + " asked, " + wrong + " wrong");
        if (wrong != 0) {
            System.exit(1);
        }
    }

    private static void need(boolean is, String told) {
        if (!is) {
            wrong++;
            System.out.println(told);
        }
    }

    private static void run(EvenTally tally, String line) {
        Matcher fed = FED.matcher(line);
        Matcher call = CALL.matcher(line);
        if (fed.find()) {
            for (char sign : fed.group(1).toCharArray()) {
                tally.feed(sign);
            }
        } else if (call.matches()) {
            asked++;
            int got = answer(tally, call.group(2), call.group(3));
            need(got == Integer.parseInt(call.group(4)), line + " answered " + got);
            if (call.group(1) != null) {
                NAMES.put(call.group(1), got);
            }
        } else {
            need(SILENT.matcher(line).matches(), "no answer is told: " + line);
        }
    }

    private static int answer(EvenTally tally, String name, String with) {
        String[] parts = with.isEmpty() ? new String[0] : with.split(", ");
        for (Method method : EvenTally.class.getMethods()) {
            if (method.getName().equals(name) && method.getParameterCount() == parts.length) {
                return answer(tally, method, parts);
            }
        }
        need(false, "there is no call " + name + " of " + parts.length);
        return Integer.MIN_VALUE;
    }

    private static int answer(EvenTally tally, Method method, String[] parts) {
        Object[] values = new Object[parts.length];
        for (int i = 0; i < parts.length; i++) {
            values[i] = method.getParameterTypes()[i] == boolean.class ? (Object) parts[i].equals("true") : number(parts[i]);
        }
        try {
            return ((Number) method.invoke(tally, values)).intValue();
        } catch (IllegalAccessException | InvocationTargetException thrown) {
            need(false, method + ": " + thrown);
            return Integer.MIN_VALUE;
        }
    }

    private static Object number(String text) {
        return NAMES.containsKey(text) ? NAMES.get(text) : Integer.valueOf(text);
    }
}
