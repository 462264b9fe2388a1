import java.lang.reflect.InvocationTargetException;
import java.lang.reflect.Method;
import java.util.Arrays;
import java.util.Comparator;

/**
 * What the tests by sentence share. A test is a static method promise(number)_(sentence) of a class under this one;
 * it fails if an answer is not the one that is due, or if it asks nothing.
 */
abstract class Sentences {
  static final int BAD = -1, STATE = -2, FULL = -3, NONE = -9, NO = -1000000;

  /** The most of everything that a text may tell: 23 items. */
  static final String FULLEST = "r;r;r;r;r;d0 1;d1 2;d2 3;d3 4;d4 4;c60 0;c60 1;c60 2;c60 3;c60 4;c60 0;"
    + "a20 9 0 9;a20 9 1 0;a20 9 2 1;a20 9 3 2;a20 9 4 3;a20 9 0 4;w0 1 0 1 0 1 0 1;";

  private static final String NAME = "promise(\\d+)_\\w+";
  private static Checks checks;
  private static String test = "";

  interface Deed { void on(LitWick x); }

  interface Ask { long of(LitWick x); }

  interface NumberAsk { long of(LitWick x, int n); }

  static void run(Class<?> tests) {
    checks = new Checks(tests.getSimpleName());
    Method[] all = tests.getDeclaredMethods();
    Arrays.sort(all, Comparator.comparingInt(Sentences::number).thenComparing(Method::getName));
    int ran = 0;
    for (Method m : all) {
      if (number(m) == 0) continue;
      test = m.getName();
      checks.begin();
      int before = checks.asked();
      call(m);
      checks.holds(test + " asks something", checks.asked() > before);
      ran++;
    }
    System.out.println(tests.getSimpleName() + ": " + ran + " tests");
    checks.end();
  }

  private static int number(Method m) {
    return m.getName().matches(NAME) ? Integer.parseInt(m.getName().replaceAll(NAME, "$1")) : 0;
  }

  private static void call(Method m) {
    try {
      m.setAccessible(true);
      m.invoke(null);
    } catch (InvocationTargetException e) {
      checks.holds(test + " threw " + e.getCause(), false);
    } catch (IllegalAccessException e) {
      throw new IllegalStateException(e);
    }
  }

  static void due(long got, long want) { checks.due(test, got, want); }

  static void due(String what, long got, long want) { checks.due(test + ", " + what, got, want); }

  /** A text's answer on a new object: its items, or its fault. */
  static int read(String text) {
    LitWick x = new LitWick();
    Checks.typed(x, text);
    return x.house();
  }

  static void items(String text, int want) { due("'" + text + "'", read(text), want); }

  static void fault(String text, int place) { due("'" + text + "'", read(text), -10 - place); }

  static LitWick told(String text) { return Checks.told(text); }

  static void tell(LitWick x, String text) {
    x.clear();
    Checks.typed(x, text);
    if (x.house() < 0) throw new IllegalStateException("a test's text has a fault: " + text);
  }

  /** A house in which every candle is lit and every act is begun. */
  static LitWick litAndBegun(String text) {
    LitWick x = told(text);
    for (int c = 0; c < x.count(2); c++) x.lights(c, 1);
    for (int a = 0; a < x.count(3); a++) x.begins(a);
    return x;
  }

  static LitWick made(Deed... deeds) {
    LitWick x = new LitWick();
    for (Deed d : deeds) d.on(x);
    return x;
  }

  static void times(int n, Runnable it) { for (int i = 0; i < n; i++) it.run(); }

  /** To a minute from 0 on. */
  static void pass(LitWick x, int minutes) {
    for (int m = minutes; m > 0; m -= 60) x.minutes(Math.min(m, 60));
  }

  /**
   * A night with something of everything: in minute 2 act 0 is whole, 1 void, 2 begun, 3 not; candle 0 is lit,
   * 1 burned down, 2 shielded; doors 0 and 1 are open, 2 is shut; ten may be undone; image 0 is kept, 1 is none.
   */
  static void quiet(LitWick x) {
    tell(x, "r;r;r;d0 1;d1 2;d2 2;c5 0;c1 1;c9 2;a1 4 0 9;a2 9 1 9;a3 1 0 0;a4 7 0 9;w0 0 1;");
    x.lights(0, 1);
    x.lights(1, 1);
    x.begins(0);
    x.begins(1);
    x.minutes(2);
    x.begins(2);
    x.opens(0, 1);
    x.shields(2, 1);
    x.keep(0);
    x.opens(1, 1);
    x.wants(4);
    x.wants(3);
    Checks.typed(x, "r;r");
  }

  /** The same, with something in the trace. */
  static void busy(LitWick x) {
    quiet(x);
    x.mark(3, 0);
  }

  /** All that can be read off an object without changing it. */
  static String look(LitWick x) {
    StringBuilder s = new StringBuilder();
    for (int what = 0; what <= 7; what++) s.append(x.count(what)).append(' ');
    for (int what = 0; what <= 6; what++) s.append(x.now(what)).append(' ');
    for (int i = 0; i < x.count(2); i++) for (int what = 0; what <= 4; what++) s.append(x.candle(i, what)).append(' ');
    for (int i = 0; i < x.count(1); i++) for (int what = 0; what <= 2; what++) s.append(x.door(i, what)).append(' ');
    for (int i = 0; i < x.count(3); i++) for (int what = 0; what <= 5; what++) s.append(x.act(i, what)).append(' ');
    for (int i = 0; i < x.count(0); i++) for (int what = 0; what <= 3; what++) s.append(x.room(i, what)).append(' ');
    for (int i = -2; i < x.count(5); i++) s.append(x.cut(i)).append(' ');
    return s.append(x.trace()).toString();
  }

  /** Two ways to make an object leave it alike: in what it shows, in what can be undone, in its images and its text. */
  static void alike(Deed one, Deed other) {
    for (int undone = 0; undone <= 11; undone++) {
      int n = undone;
      alikeBehind(one, other, "undo " + n + " times", x -> { long last = 0; for (int i = 0; i < n; i++) last = x.undo(); return last; });
    }
    alikeBehind(one, other, "back to image 0", x -> x.back(0));
    alikeBehind(one, other, "back to image 1", x -> x.back(1));
    alikeBehind(one, other, "the text read", x -> x.house());
    alikeBehind(one, other, "the text ended and read", x -> { x.type(';'); return x.house(); });
  }

  private static void alikeBehind(Deed one, Deed other, String what, Ask step) {
    LitWick x = made(one), y = made(other);
    due(what, step.of(x), step.of(y));
    String got = look(x), want = look(y);
    checks.holds(test + ", " + what + ": it shows " + got + ", due is " + want, got.equals(want));
  }

  static void changesNothing(Deed scene, Ask call) { alike(x -> { scene.on(x); call.of(x); }, scene); }

  /** Numbers outside of what may be told, near and far, are refused; 32 and 64 are where Java's shifts come round. */
  static void outside(int least, int most, NumberAsk call, long want) {
    int[] numbers = {Integer.MIN_VALUE, Integer.MIN_VALUE + 1, -65536, -256, -64, -32, least - 1, most + 1,
      32, 64, 256, 65536, Integer.MAX_VALUE - 1, Integer.MAX_VALUE};
    for (int n : numbers) {
      if (n < least || n > most) due("number " + n, call.of(made(Sentences::busy), n), want);
    }
  }

  /** A call is refused as told, and nothing changes. */
  static void refused(Deed scene, Ask call, long want) {
    due("refused", call.of(made(scene)), want);
    changesNothing(scene, call);
  }
}
