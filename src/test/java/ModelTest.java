import java.util.Random;

/** Runs of made-up calls on fresh objects, every answer held against the model's. */
public final class ModelTest {
  private static final Checks checks = new Checks("ModelTest");
  private static final int RUNS = 3000;
  /** An object is good for 512 calls: no step takes as many as 20, the reading of a text apart. */
  private static final int CALLS = 492;

  public static void main(String[] args) {
    for (int run = 0; run < RUNS && checks.wrong() == 0; run++) new ModelTest(run).run();
    checks.end();
  }

  private final Random dice;
  private final String name;
  private final LitWick x = new LitWick();
  private final Model m = new Model();
  private final StringBuilder told = new StringBuilder();
  private int calls = 0;

  private ModelTest(int run) {
    dice = new Random(7919L * run + 17);
    name = "run " + run;
  }

  private void due(String call, long got, long want) {
    calls++;
    if (told.length() < 20000) told.append(call).append(' ').append(got).append('\n');
    checks.due(name + " " + call, got, want);
    if (got != want) System.out.println(told);
  }

  private void run() {
    typeText();
    due("house", x.house(), m.house());
    if (dice.nextInt(8) == 0) growLate();
    while (calls < CALLS && checks.wrong() == 0) {
      if (dice.nextInt(150) == 0 && calls < CALLS - 200) {
        typeText();
        due("house", x.house(), m.house());
      }
      int which = dice.nextInt(100);
      if (which < 55) does(); else if (which < 90) asks(); else looks();
    }
    for (int what = 0; what <= 7; what++) due("count " + what, x.count(what), m.count(what));
    due("trace", x.trace(), m.trace);
  }

  /** To a minute near the last one. */
  private void growLate() {
    for (int i = 0; i < 16; i++) due("minutes 60", x.minutes(60), m.minutes(60));
    int n = 1 + dice.nextInt(41);
    due("minutes " + n, x.minutes(n), m.minutes(n));
  }

  /** One of those that are, mostly. */
  private int some(int howMany) {
    return dice.nextInt(20) == 0 ? dice.nextInt(howMany + 5) - 2 : dice.nextInt(Math.max(1, howMany));
  }

  private void does() {
    int c = some(m.count(2)), d = some(m.count(1)), a = some(m.count(3)), r = some(m.count(0)), is = some(2);
    int up = dice.nextInt(4) == 0 ? is : 1;
    switch (dice.nextInt(16)) {
      case 0: case 1: case 2: due("lights " + c + " " + up, x.lights(c, up), m.lights(c, up)); break;
      case 3: case 4: due("carries " + c + " " + r, x.carries(c, r), m.carries(c, r)); break;
      case 5: due("shields " + c + " " + is, x.shields(c, is), m.shields(c, is)); break;
      case 6: case 7: due("opens " + d + " " + is, x.opens(d, is), m.opens(d, is)); break;
      case 8: case 9: due("begins " + a, x.begins(a), m.begins(a)); break;
      case 10: case 11: int n = dice.nextInt(30) == 0 ? dice.nextInt(64) - 1 : 1 + dice.nextInt(3); due("minutes " + n, x.minutes(n), m.minutes(n)); break;
      case 12: due("undo", x.undo(), m.undo()); break;
      case 13: due("keep " + is, x.keep(is), m.keep(is)); break;
      case 14: due("back " + is, x.back(is), m.back(is)); break;
      default: int length = some(dice.nextBoolean() ? 62 : 12); due("wants " + length, x.wants(length), m.wants(length));
    }
  }

  private void asks() {
    int c = some(m.count(2)), a = some(m.count(3)), r = some(m.count(0)), is = some(2);
    switch (dice.nextInt(12)) {
      case 0: int n = some(61); due("comes " + a + " " + n, x.comes(a, n), m.comes(a, n)); break;
      case 1: due("first " + is, x.first(is), m.first(is)); break;
      case 2: int t = some(dice.nextBoolean() ? 100 : 25); due("bestActs " + t + " " + is, x.bestActs(t, is), m.bestActs(t, is)); break;
      case 3: case 4: due("plot " + a, x.plot(a), m.plot(a)); break;
      case 5: case 6: due("guard " + a, x.guard(a), m.guard(a)); break;
      case 7: due("falls " + a, x.falls(a), m.falls(a)); break;
      case 8: asksCut(); break;
      case 9: due("shown " + r + " " + is, x.shown(r, is), m.shown(r, is)); break;
      case 10: int o = some(11), k = some(7); due("odds " + a + " " + o + " " + k + " " + is, x.odds(a, o, k, is), m.odds(a, o, k, is)); break;
      default: int kind = some(6); due("mark " + kind + " " + c, x.mark(kind, c), m.mark(kind, c));
    }
  }

  private void asksCut() {
    if (m.count(5) > 5 && dice.nextInt(3) > 0 || dice.nextInt(12) == 0) due("forget", x.forget(), m.forget());
    if (dice.nextInt(4) > 0) return;
    for (int i = -3; i <= m.count(5); i++) due("cut " + i, x.cut(i), m.cut(i));
  }

  private void looks() {
    int what = dice.nextInt(9) - 1;
    int c = some(m.count(2)), d = some(m.count(1)), a = some(m.count(3)), r = some(m.count(0));
    due("candle " + c + " " + what, x.candle(c, what), m.candle(c, what));
    due("door " + d + " " + what, x.door(d, what), m.door(d, what));
    due("act " + a + " " + what, x.act(a, what), m.act(a, what));
    due("room " + r + " " + what, x.room(r, what), m.room(r, what));
    due("now " + what, x.now(what), m.now(what));
    due("count " + what, x.count(what), m.count(what));
    due("trace", x.trace(), m.trace);
    if (dice.nextInt(10) == 0) due("clear", x.clear(), m.clear());
  }

  private void typeText() {
    String text = madeUp();
    if (dice.nextInt(4) == 0) text = spoilt(text);
    for (int i = 0; i < text.length(); i++) {
      int c = text.charAt(i);
      due("type " + c, x.type(c), m.type(c));
    }
    if (dice.nextInt(40) == 0) due("type -1", x.type(-1), m.type(-1));
  }

  private String madeUp() {
    StringBuilder s = new StringBuilder();
    int rooms = 1 + dice.nextInt(4), doors = dice.nextInt(6), candles = dice.nextInt(7), acts = dice.nextInt(7);
    int longest = dice.nextBoolean() ? 60 : 12, dearest = dice.nextBoolean() ? 20 : 5;
    for (int i = 0; i < rooms; i++) s.append("r;");
    for (int i = 0; i < doors; i++) s.append('d').append(dice.nextInt(rooms)).append(' ').append(dice.nextInt(rooms)).append(';');
    for (int i = 0; i < candles; i++) s.append('c').append(1 + dice.nextInt(longest)).append(' ').append(dice.nextInt(rooms)).append(dice.nextBoolean() ? "; " : ";");
    for (int i = 0; i < acts; i++) {
      int on = i == 0 || dice.nextBoolean() ? 9 : dice.nextInt(i);
      s.append('a').append(1 + dice.nextInt(dearest)).append(' ').append(dice.nextInt(10)).append(' ').append(dice.nextInt(rooms)).append(' ').append(on).append(';');
    }
    if (dice.nextInt(6) > 0) {
      s.append("w");
      for (int i = dice.nextInt(8); i >= 0; i--) s.append(dice.nextInt(3) == 0 ? 1 : 0).append(i == 0 ? ";" : " ");
    }
    return s.toString();
  }

  private String spoilt(String text) {
    StringBuilder s = new StringBuilder(text);
    String signs = "rdcaw;;  0123456789x?R\u00e9\u0000";
    for (int i = 1 + dice.nextInt(2); i > 0 && s.length() > 0; i--) {
      int at = dice.nextInt(s.length());
      char sign = signs.charAt(dice.nextInt(signs.length()));
      switch (dice.nextInt(4)) {
        case 0: s.setCharAt(at, sign); break;
        case 1: s.insert(at, sign); break;
        case 2: s.deleteCharAt(at); break;
        default: s.setLength(at);
      }
    }
    return s.toString();
  }
}
