/** What the tests share: due answers, and texts typed byte by byte. */
final class Checks {
  private static final int MOST_SHOWN = 10;

  private final String test;
  private int asked = 0;
  private int wrong = 0;
  private int shown = 0;

  Checks(String test) { this.test = test; }

  /** Another test begins: its own wrong answers are shown, however many others had. */
  void begin() { shown = 0; }

  void due(String what, long got, long want) {
    asked++;
    if (got != want) {
      wrong++;
      shown++;
      if (shown <= MOST_SHOWN) System.out.println(test + ": " + what + " answered " + got + ", due is " + want);
    }
  }

  void holds(String what, boolean it) { due(what, it ? 1 : 0, 1); }

  int wrong() { return wrong; }

  int asked() { return asked; }

  void end() {
    System.out.println(test + ": " + asked + " checks, " + wrong + " wrong");
    if (wrong > 0 || asked == 0) System.exit(1);
  }

  static void typed(LitWick x, String text) {
    for (int i = 0; i < text.length(); i++) x.type(text.charAt(i));
  }

  static LitWick told(String text) {
    LitWick x = new LitWick();
    typed(x, text);
    int items = x.house();
    if (items < 0) throw new IllegalStateException("a test's text has a fault: " + text + " " + items);
    return x;
  }
}
