import java.lang.management.ManagementFactory;
import java.lang.reflect.Field;
import java.lang.reflect.Method;
import java.lang.reflect.Modifier;
import java.nio.file.Files;
import java.nio.file.Path;
import java.util.Set;
import java.util.TreeSet;
import java.util.regex.Matcher;
import java.util.regex.Pattern;

/** The public face, the rules of LANGUAGE.md that a reader of the file can check, and the room that calls take. */
public final class FaceTest {
  private static final Checks checks = new Checks("FaceTest");

  private static final String[] FACE = {
    "int type(int)", "int clear()", "int house()", "int candle(int,int)", "int door(int,int)", "int act(int,int)",
    "int room(int,int)", "int lights(int,int)", "int carries(int,int)", "int shields(int,int)", "int opens(int,int)",
    "int begins(int)", "int minutes(int)", "int undo()", "int now(int)", "int comes(int,int)", "int first(int)",
    "int bestActs(int,int)", "int plot(int)", "int guard(int)", "int falls(int)", "int wants(int)", "int forget()",
    "int cut(int)", "int shown(int,int)", "int odds(int,int,int,int)", "int mark(int,int)", "int keep(int)",
    "int back(int)", "int count(int)", "long trace()"};

  public static void main(String[] args) throws Exception {
    face();
    noPrivateNamesakes();
    words();
    extremes();
    room();
    checks.end();
  }

  private static String signature(Method m) {
    StringBuilder s = new StringBuilder(m.getReturnType() + " " + m.getName() + "(");
    for (Class<?> p : m.getParameterTypes()) s.append(s.charAt(s.length() - 1) == '(' ? "" : ",").append(p);
    return s.append(')').toString();
  }

  private static void face() {
    Set<String> due = new TreeSet<>(Set.of(FACE));
    Set<String> got = new TreeSet<>();
    for (Method m : LitWick.class.getDeclaredMethods()) {
      if (!Modifier.isPrivate(m.getModifiers())) got.add(signature(m));
    }
    checks.holds("the methods of the face: " + got, got.equals(due));
    Set<String> fields = new TreeSet<>();
    for (Field f : LitWick.class.getDeclaredFields()) {
      if (!Modifier.isPrivate(f.getModifiers())) fields.add(f.getName());
    }
    checks.holds("the constants of the face: " + fields, fields.equals(Set.of("BAD", "STATE", "FULL", "NONE", "NO")));
    checks.due("constructors", LitWick.class.getDeclaredConstructors().length, 1);
    checks.holds("the class is public and final", Modifier.isPublic(LitWick.class.getModifiers()) && Modifier.isFinal(LitWick.class.getModifiers()));
    checks.holds("twelve classes at most", LitWick.class.getDeclaredClasses().length <= 11);
  }

  private static void noPrivateNamesakes() {
    Set<String> names = new TreeSet<>();
    for (String s : FACE) names.add(s.replaceAll("^\\w+ (\\w+)\\(.*", "$1"));
    for (Method m : LitWick.class.getDeclaredMethods()) {
      if (Modifier.isPrivate(m.getModifiers())) checks.holds("namesake " + m.getName(), !names.contains(m.getName()));
    }
    for (Class<?> c : LitWick.class.getDeclaredClasses()) {
      checks.holds(c + " is static", Modifier.isStatic(c.getModifiers()));
      for (Method m : c.getDeclaredMethods()) {
        checks.holds("namesake in " + c + " " + m.getName(), !names.contains(m.getName()));
        checks.holds("parameters of " + m, m.getParameterCount() <= 7);
      }
    }
  }

  private static void words() throws Exception {
    String source = Files.readString(Path.of("src/main/java/LitWick.java"));
    checks.holds("signs 1 to 127", source.chars().allMatch(c -> c > 0 && c < 128));
    String code = source.replaceAll("(?s)/\\*.*?\\*/", "").replaceAll("//.*", "");
    String[] barred = {"throw", "throws", "try", "catch", "finally", "synchronized", "assert", "package", "double", "float", "Object", "System\\.out",
      "Random", "nanoTime", "currentTimeMillis", "Thread", "hashCode", "toString", "equals", "\\w+Exact", "volatile", "native"};
    for (String word : barred) {
      checks.holds("no " + word, !Pattern.compile("\\b" + word + "\\b").matcher(code).find());
    }
    checks.holds("no lambda or method reference", !code.contains("->") && !code.contains("::"));
    Matcher imports = Pattern.compile("import ([\\w.]+);").matcher(code);
    while (imports.find()) checks.holds("import " + imports.group(1), imports.group(1).equals("java.util.Arrays"));
  }

  /** No argument makes the machine throw, in a told house or in none. */
  private static void extremes() {
    int[] ends = {Integer.MIN_VALUE, -1000000, -11, -10, -9, -3, -2, -1, 0, 1, 2, 5, 6, 7, 8, 9, 10, 11, 31, 32, 33, 64, 99, 100, 1000, Integer.MAX_VALUE};
    String full = "r;r;r;r;r;d0 1;d1 2;d2 3;d3 4;d4 4;c9 0;c9 1;c9 2;c9 3;c9 4;c9 0;a1 1 0 9;a1 1 1 0;a1 1 2 1;a1 1 3 2;a1 1 4 3;a1 1 0 4;w1;";
    for (int i : ends) {
      for (int j : ends) {
        for (LitWick x : new LitWick[] {new LitWick(), Checks.told(full)}) {
          x.candle(i, j); x.door(i, j); x.act(i, j); x.room(i, j); x.lights(i, j); x.carries(i, j); x.shields(i, j);
          x.opens(i, j); x.comes(i, j); x.bestActs(i, j); x.shown(i, j); x.mark(i, j); x.type(i); x.begins(i); x.first(i);
          x.plot(i); x.guard(i); x.falls(i); x.wants(j); x.cut(i); x.odds(i, j, i, j); x.odds(0, i, j, 0); x.odds(0, 5, i, j);
          x.keep(i); x.back(i); x.count(i); x.now(i); x.minutes(i); x.undo(); x.forget(); x.house(); x.clear();
        }
      }
    }
    checks.holds("the machine threw nothing", true);
  }

  /** What a new object takes is small, and no call takes any more. */
  private static void room() {
    com.sun.management.ThreadMXBean meter = (com.sun.management.ThreadMXBean) ManagementFactory.getThreadMXBean();
    long self = Thread.currentThread().getId();
    new LitWick();
    long before = meter.getThreadAllocatedBytes(self);
    LitWick x = new LitWick();
    long made = meter.getThreadAllocatedBytes(self) - before;
    checks.holds("a new object takes " + made + " bytes", made < 16384);
    String text = "r;d0 0;d0 0;d0 0;d0 0;d0 0;c60 0;c60 0;c60 0;c60 0;c60 0;c60 0;a20 1 0 9;a20 1 0 0;w0 1;";
    uses(x, text);
    before = meter.getThreadAllocatedBytes(self);
    for (int i = 0; i < 200; i++) uses(x, text);
    long taken = meter.getThreadAllocatedBytes(self) - before;
    checks.holds("200 rounds of calls take " + taken + " bytes", taken < 100000);
  }

  private static void uses(LitWick x, String text) {
    Checks.typed(x, text);
    x.house();
    x.lights(0, 1); x.shields(0, 1); x.opens(0, 1); x.begins(0); x.keep(0); x.minutes(3); x.keep(1); x.back(0); x.undo();
    for (int i = 0; i < 6; i++) x.wants(35);
    x.cut(-1); x.plot(0); x.guard(0); x.odds(0, 5, 6, 0); x.comes(1, 60); x.first(0); x.bestActs(99, 0); x.shown(0, 0);
    x.falls(0); x.mark(3, 0); x.trace(); x.count(0); x.now(6); x.room(0, 3); x.candle(0, 0); x.door(0, 2); x.act(0, 5);
  }
}
