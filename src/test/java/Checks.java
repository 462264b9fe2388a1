/** What the tests share: due answers, and texts typed byte by byte. */
final class Checks {
  private final String test;
  private int asked = 0;
  private int wrong = 0;

  Checks(String test) { this.test = test; }

  void due(String what, long got, long want) {
    asked++;
    if (got != want) {
      wrong++;
      if (wrong <= 40) System.out.println(test + ": " + what + " answered " + got + ", due is " + want);
    }
  }

  void holds(String what, boolean it) { due(what, it ? 1 : 0, 1); }

  int wrong() { return wrong; }

  int asked() { return asked; }

  void end() {
    System.out.println(test + ": " + asked + " checks, " + wrong + " wrong");
    if (wrong > 0 || asked == 0) System.exit(1);
  }

  static void typed(LitWick x, String text) {
    for (int i = 0; i < text.length(); i++) x.type(text.charAt(i));
  }

  static LitWick told(String text) {
    LitWick x = new LitWick();
    typed(x, text);
    int items = x.house();
    if (items < 0) throw new IllegalStateException("a test's text has a fault: " + text + " " + items);
    return x;
  }
}
