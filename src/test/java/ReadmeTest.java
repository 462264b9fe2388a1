import java.io.IOException;
import java.lang.reflect.InvocationTargetException;
import java.lang.reflect.Method;
import java.lang.reflect.Modifier;
import java.nio.file.Files;
import java.nio.file.Path;
import java.util.regex.Matcher;
import java.util.regex.Pattern;

/** README.md holds: each call in its examples answers as it says there, and no call or constant is left out. */
public final class ReadmeTest {
  private static final Checks checks = new Checks("ReadmeTest");
  private static final Pattern BLOCK = Pattern.compile("(?s)```java\\n(.*?)```");
  private static final Pattern TEXT = Pattern.compile("text = \"([^\"]*)\";");
  private static final Pattern CALL = Pattern.compile("x\\.(\\w+)\\(([-\\d, ]*)\\);\\s*// (-?\\d+): .+");
  private static final String NEW = "x = new LitWick();";
  private static final String TYPING = "for (int i = 0; i < text.length(); i++) x.type(text.charAt(i));";

  private static LitWick x;
  private static String text = "";

  public static void main(String[] args) throws IOException {
    String page = Files.readString(Path.of("README.md"));
    Matcher blocks = BLOCK.matcher(page);
    int found = 0;
    while (blocks.find()) {
      for (String line : blocks.group(1).split("\n")) follow(line);
      found++;
    }
    checks.due("examples", found, 3);
    namesAll(page);
    checks.end();
  }

  private static void follow(String line) {
    Matcher told = TEXT.matcher(line);
    Matcher call = CALL.matcher(line);
    if (line.endsWith(NEW)) {
      x = new LitWick();
    } else if (told.find()) {
      text = told.group(1);
    } else if (line.equals(TYPING)) {
      Checks.typed(x, text);
    } else if (call.matches()) {
      checks.due(line, answer(call.group(1), call.group(2)), Long.parseLong(call.group(3)));
    } else {
      checks.holds("a line that can be followed: " + line, false);
    }
  }

  private static long answer(String name, String list) {
    String[] numbers = list.isEmpty() ? new String[0] : list.split(", ");
    Object[] values = new Object[numbers.length];
    for (int i = 0; i < numbers.length; i++) values[i] = Integer.valueOf(numbers[i]);
    for (Method m : LitWick.class.getDeclaredMethods()) {
      if (m.getName().equals(name) && m.getParameterCount() == values.length) return invoke(m, values);
    }
    throw new IllegalStateException("no such call: " + name + "(" + list + ")");
  }

  private static long invoke(Method m, Object[] values) {
    try {
      return ((Number) m.invoke(x, values)).longValue();
    } catch (IllegalAccessException | InvocationTargetException e) {
      throw new IllegalStateException(e);
    }
  }

  private static void namesAll(String page) {
    for (Method m : LitWick.class.getDeclaredMethods()) {
      if (!Modifier.isPublic(m.getModifiers())) continue;
      Matcher row = Pattern.compile("\\| `" + m.getName() + "\\(([^)]*)\\)` \\|").matcher(page);
      boolean named = row.find();
      checks.holds("a row for " + m.getName(), named);
      if (named) checks.due("numbers of " + m.getName(), row.group(1).isEmpty() ? 0 : row.group(1).split(", ").length, m.getParameterCount());
    }
    constant(page, "BAD", LitWick.BAD);
    constant(page, "STATE", LitWick.STATE);
    constant(page, "FULL", LitWick.FULL);
    constant(page, "NONE", LitWick.NONE);
    constant(page, "NO", LitWick.NO);
  }

  private static void constant(String page, String name, int value) {
    checks.holds(name, page.contains("`" + name + "` (" + value + ")"));
  }
}
