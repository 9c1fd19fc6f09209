import java.io.IOException;
import java.lang.reflect.InvocationTargetException;
import java.lang.reflect.Method;
import java.nio.file.Files;
import java.nio.file.Path;
import java.util.TreeSet;
import java.util.regex.Matcher;
import java.util.regex.Pattern;

/** The example of README.md, read from there: each call must answer what stands behind it. */
public final class ReadmeTest {
  private static final Check CHECK = new Check();
  private static final Pattern CALL =
      Pattern.compile("plans\\.(\\w+)\\(([^)]*)\\);(?: +// (?:-> (-?\\d+)|throws (\\w+))?.*)?");
  private static final NettedPlans PLANS = new NettedPlans();

  public static void main(String[] args) throws IOException {
    String readme = Files.readString(Path.of("README.md"));
    int start = readme.indexOf("```java\n");
    int end = readme.indexOf("```\n", start + 1);
    CHECK.is("there is an example", 1, () -> start >= 0 && end > start ? 1 : 0);
    TreeSet<String> shown = new TreeSet<>();
    for (String line : readme.substring(start, end).split("\n")) {
      Matcher call = CALL.matcher(line);
      if (call.matches()) {
        look(call, line);
        shown.add(call.group(1));
      } else {
        CHECK.is("no call: " + line, 0, () -> line.startsWith("plans") ? 1 : 0);
      }
    }
    for (Method method : NettedPlans.class.getMethods()) {
      if (method.getDeclaringClass() == NettedPlans.class) {
        CHECK.is("shown: " + method.getName(), 1, () -> shown.contains(method.getName()) ? 1 : 0);
      }
    }
    CHECK.end();
  }

  /** What is shown: an answer, an exception, or neither where the call answers nothing. */
  private static void look(Matcher call, String line) {
    String due = call.group(3) != null ? call.group(3) : call.group(4);
    CHECK.same(line, due == null ? "null" : due, outcome(call.group(1), call.group(2)));
  }

  private static String outcome(String name, String list) {
    String[] words = list.isEmpty() ? new String[0] : list.split(", ");
    Object[] values = new Object[words.length];
    Class<?>[] types = new Class<?>[words.length];
    for (int k = 0; k < words.length; k++) {
      values[k] = Integer.valueOf(words[k]);
      types[k] = int.class;
    }
    try {
      return String.valueOf(NettedPlans.class.getMethod(name, types).invoke(PLANS, values));
    } catch (InvocationTargetException e) {
      return e.getCause().getClass().getSimpleName();
    } catch (ReflectiveOperationException e) {
      return "no such call";
    }
  }
}
