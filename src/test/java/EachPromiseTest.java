import java.io.IOException;
import java.nio.file.Files;
import java.nio.file.Path;
import java.util.List;
import java.util.Map;
import java.util.TreeMap;
import java.util.regex.Matcher;
import java.util.regex.Pattern;
import java.util.stream.Collectors;
import java.util.stream.Stream;

/** Every promise of the document has tests by sentence, and one that names each answer that the promise names. */
public final class EachPromiseTest {
  private static final int PROMISES = 32;
  private static final Checks checks = new Checks("EachPromiseTest");

  public static void main(String[] args) throws IOException {
    Map<Integer, String> names = namesByPromise();
    Map<Integer, String> promises = promises();
    checks.due("promises in the document", promises.size(), PROMISES);
    for (int p = 1; p <= PROMISES; p++) {
      String tests = names.getOrDefault(p, "");
      checks.holds("promise " + p + " has a test", !tests.isEmpty());
      for (String answer : new String[] {"BAD", "STATE", "FULL", "NONE"}) {
        if (Pattern.compile("\\b" + answer + "\\b").matcher(promises.getOrDefault(p, "")).find()) {
          checks.holds("promise " + p + " has a test of " + answer, tests.contains(answer.toLowerCase()));
        }
      }
    }
    checks.end();
  }

  private static Map<Integer, String> namesByPromise() throws IOException {
    Map<Integer, String> names = new TreeMap<>();
    for (Path file : testFiles()) {
      Matcher m = Pattern.compile("static void promise(\\d+)_(\\w+)\\(\\)").matcher(Files.readString(file));
      while (m.find()) names.merge(Integer.parseInt(m.group(1)), " " + m.group(2).toLowerCase(), String::concat);
    }
    return names;
  }

  private static List<Path> testFiles() throws IOException {
    try (Stream<Path> files = Files.list(Path.of("src/test/java"))) {
      return files.filter(f -> f.toString().endsWith("Test.java")).collect(Collectors.toList());
    }
  }

  private static Map<Integer, String> promises() throws IOException {
    Map<Integer, String> texts = new TreeMap<>();
    String document = Files.readString(Path.of("../shared/DOC.md"));
    Matcher m = Pattern.compile("(?s)## Promise (\\d+): [^\\n]+\\n(.*?)(?=\\n## )").matcher(document);
    // What would be BAD elsewhere is NO of a mark.
    while (m.find()) texts.put(Integer.parseInt(m.group(1)), m.group(2).replace("NO: BAD", "NO"));
    return texts;
  }
}
