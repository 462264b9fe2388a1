/** Each promise by its number: ordinary inputs, the edges that the document names, wrong inputs. */
public final class PromisesTest {
  private static final Checks checks = new Checks("PromisesTest");
  private static final int BAD = -1, STATE = -2, FULL = -3, NONE = -9, NO = -1000000;

  public static void main(String[] args) {
    promise1(); promise2(); promise3(); promise4(); promise4Faults(); promise5(); promise6(); promise7();
    promise8(); promise9(); promise10(); promise11(); promise12(); promise13(); promise14(); promise15();
    promise16(); promise17(); promise18(); promise19(); promise20(); promise21(); promise22(); promise23();
    promise24(); promise25(); promise26(); promise27(); promise28(); promise29(); promise30(); promise31();
    promise32(); minuteRules(); refusalsChangeNothing();
    checks.end();
  }

  private static void due(String what, long got, long want) { checks.due(what, got, want); }

  private static int fault(String text) {
    LitWick x = new LitWick();
    Checks.typed(x, text);
    return x.house();
  }

  private static void promise1() {
    LitWick x = new LitWick();
    for (int what = 0; what <= 7; what++) due("1 count " + what, x.count(what), 0);
    for (int what = 0; what <= 6; what++) due("1 now " + what, x.now(what), 0);
    due("1 trace", x.trace(), 0);
    due("1 room", x.room(0, 0), BAD);
    due("1 undo", x.undo(), STATE);
    due("1 back", x.back(0), STATE);
    due("1 BAD", LitWick.BAD, -1);
    due("1 STATE", LitWick.STATE, -2);
    due("1 FULL", LitWick.FULL, -3);
    due("1 NONE", LitWick.NONE, -9);
    due("1 NO", LitWick.NO, -1000000);
  }

  private static void promise2() {
    LitWick x = new LitWick();
    due("2 least", x.type(0), 1);
    due("2 most", x.type(255), 2);
    due("2 below", x.type(-1), BAD);
    due("2 above", x.type(256), BAD);
    for (int i = 3; i <= 200; i++) due("2 byte " + i, x.type(' '), i);
    due("2 full", x.type(' '), FULL);
    due("2 bad goes ahead of full", x.type(256), BAD);
    due("2 holds", x.count(7), 200);
  }

  private static void promise3() {
    LitWick x = new LitWick();
    due("3 of none", x.clear(), 0);
    Checks.typed(x, "r;?");
    due("3 of three", x.clear(), 3);
    due("3 again", x.clear(), 0);
    Checks.typed(x, "r;");
    due("3 then a text", x.house(), 1);
  }

  private static void promise4() {
    LitWick x = new LitWick();
    due("4 no text", x.house(), 0);
    Checks.typed(x, "   ");
    due("4 blanks alone", x.house(), 0);
    Checks.typed(x, " r ; d 0 0 ;c60 0;a20 9 0 9;a1 0 0 0 ; w 0 1 0 1 0 1 0 1 ; ");
    due("4 blanks and all items", x.house(), 6);
    due("4 empty then", x.count(7), 0);
    x.lights(0, 1);
    x.minutes(2);
    x.wants(5);
    x.keep(0);
    x.mark(5, 0);
    Checks.typed(x, "r;x");
    due("4 fault", x.house(), -12);
    due("4 the text stays", x.clear(), 3);
    due("4 the minute stays", x.now(0), 2);
    due("4 what is wanted stays", x.count(5), 1);
    due("4 the image stays", x.back(0), 2);
    Checks.typed(x, "r;r;c7 1;");
    due("4 anew", x.house(), 3);
    due("4 anew rooms", x.count(0), 2);
    due("4 anew no doors", x.count(1), 0);
    due("4 anew no acts", x.count(3), 0);
    due("4 anew no wind", x.count(4), 0);
    due("4 anew nothing wanted", x.count(5), 0);
    due("4 anew nothing undone", x.undo(), STATE);
    due("4 anew minute", x.now(0), 0);
    due("4 anew unlit", x.now(2), 0);
    due("4 anew wax", x.room(0, 0), 0);
    due("4 anew images", x.back(0), STATE);
    due("4 the trace stays", x.trace(), 100001);
    due("4 empty text tells an empty house", x.house(), 0);
    due("4 no rooms then", x.count(0), 0);
    due("4 five rooms and doors", fault("r;r;r;r;r;d4 4;d4 4;d4 4;d4 4;d4 4;"), 10);
    due("4 six candles", fault("r;c1 0;c1 0;c1 0;c1 0;c1 0;c60 0;"), 7);
    due("4 six acts", fault("r;a1 0 0 9;a1 0 0 0;a1 0 0 1;a1 0 0 2;a1 0 0 3;a1 0 0 4;"), 7);
  }

  private static void promise4Faults() {
    String[] texts = {
      "r", "r;r", "r1;", ";", "r;;", "rr;", "rd;", "x;", "R;", "5", "-", "\t", "r;\u00ff", "r;?",
      "r;r;r;r;r;r;", "r;d0 0;d0 0;d0 0;d0 0;d0 0;d0 0;", "r;c1 0;c1 0;c1 0;c1 0;c1 0;c1 0;c1 0;",
      "r;a1 0 0 9;a1 0 0 9;a1 0 0 9;a1 0 0 9;a1 0 0 9;a1 0 0 9;a1 0 0 9;",
      "r;d0;", "r;d;", "r;d0 0 0;", "r;d0 1;", "r;d1 0;", "r;d0 0", "r;d0 0  ", "r;d0",
      "r;c0 0;", "r;c61 0;", "r;c60 1;", "r;c05 0;", "r;c00 0;", "r;c100 0;", "r;c 5 0", "r;c5 00;",
      "r;a0 0 0 9;", "r;a21 0 0 9;", "r;a1 10 0 9;", "r;a1 0 1 9;", "r;a1 0 0 0;", "r;a1 0 0 10;",
      "r;a1 0 0 9;a1 0 0 1;", "r;a1 0 0 9;a1 0 0 0;a1 0 0 8;", "r;a1 0 0;", "r;a1 0 0 9 9;",
      "w;", "w2;", "w10;", "w0 1 0 1 0 1 0 1 0;", "w0 1 0 1 0 1 0 1 r", "w0;w0;", "w0", "w0 r;", "w0 99999999999;",
      "r ; c 5 5c;", "r;c5r;", "r;c5 0c;"};
    int[] faults = {
      1, 3, 1, 0, 2, 0, 0, 0, 0, 0, 0, 0, 2, 2,
      10, 27, 32,
      56,
      4, 3, 7, 5, 3, 6, 8, 4,
      3, 3, 6, 3, 3, 3, 7, 5,
      3, 3, 5, 7, 9, 9,
      18, 27, 8, 11,
      1, 1, 1, 17, 17, 3, 2, 3, 3,
      8, 4, 6};
    checks.holds("4 as many faults as texts", texts.length == faults.length);
    for (int i = 0; i < texts.length; i++) due("4 fault of '" + texts[i] + "'", fault(texts[i]), -10 - faults[i]);
  }

  private static void promise5() {
    LitWick x = Checks.told("r;r;c7 1;c60 0;d0 1;");
    due("5 length", x.candle(0, 0), 7);
    due("5 left", x.candle(0, 1), 7);
    due("5 room", x.candle(0, 2), 1);
    due("5 lit", x.candle(0, 3), 0);
    due("5 shielded", x.candle(0, 4), 0);
    x.lights(0, 1); x.shields(0, 1); x.minutes(3); x.opens(0, 1); x.carries(0, 0);
    due("5 length stays", x.candle(0, 0), 7);
    due("5 left less", x.candle(0, 1), 4);
    due("5 room then", x.candle(0, 2), 0);
    due("5 lit then", x.candle(0, 3), 1);
    due("5 shielded then", x.candle(0, 4), 1);
    due("5 the other", x.candle(1, 3), 0);
    due("5 no candle", x.candle(2, 0), BAD);
    due("5 below", x.candle(-1, 0), BAD);
    due("5 what above", x.candle(0, 5), BAD);
    due("5 what below", x.candle(0, -1), BAD);
  }

  private static void promise6() {
    LitWick x = Checks.told("r;r;d1 0;d1 1;");
    due("6 one", x.door(0, 0), 1);
    due("6 other", x.door(0, 1), 0);
    due("6 shut", x.door(0, 2), 0);
    due("6 window", x.door(1, 1), 1);
    x.opens(1, 1);
    due("6 open", x.door(1, 2), 1);
    due("6 still shut", x.door(0, 2), 0);
    due("6 no door", x.door(2, 0), BAD);
    due("6 below", x.door(-1, 0), BAD);
    due("6 what above", x.door(0, 3), BAD);
    due("6 what below", x.door(0, -1), BAD);
  }

  private static void promise7() {
    LitWick x = Checks.told("r;r;c9 1;a2 8 1 9;a20 0 0 0;");
    due("7 needs", x.act(0, 0), 2);
    due("7 worth", x.act(0, 1), 8);
    due("7 room", x.act(0, 2), 1);
    due("7 rests on none", x.act(0, 3), 9);
    due("7 rests", x.act(1, 3), 0);
    due("7 not begun", x.act(0, 4), 0);
    x.lights(0, 1); x.begins(0); x.begins(1);
    due("7 begun", x.act(0, 4), 1);
    x.minutes(1);
    due("7 a minute", x.act(0, 5), 1);
    due("7 void", x.act(1, 4), 3);
    due("7 void has none", x.act(1, 5), 0);
    x.minutes(1);
    due("7 whole", x.act(0, 4), 2);
    x.minutes(1);
    due("7 no more than it needs", x.act(0, 5), 2);
    due("7 no act", x.act(2, 0), BAD);
    due("7 below", x.act(-1, 0), BAD);
    due("7 what above", x.act(0, 6), BAD);
    due("7 what below", x.act(0, -1), BAD);
  }

  private static void promise8() {
    LitWick x = Checks.told("r;r;r;d0 1;d2 2;c5 0;c1 1;c5 1;");
    x.lights(1, 1); x.lights(2, 1);
    due("8 there", x.room(1, 1), 6);
    due("8 lit there", x.room(1, 2), 6);
    due("8 none there", x.room(2, 1), 0);
    x.minutes(3);
    due("8 wax", x.room(1, 0), 4);
    due("8 no wax", x.room(0, 0), 0);
    due("8 lit then", x.room(1, 2), 4);
    due("8 at no open door", x.room(1, 3), 0);
    x.opens(0, 1);
    due("8 one side", x.room(0, 3), 1);
    due("8 other side", x.room(1, 3), 1);
    due("8 neither", x.room(2, 3), 0);
    x.carries(2, 0);
    due("8 wax stays where it burned", x.room(1, 0), 4);
    x.minutes(1);
    due("8 wax elsewhere", x.room(0, 0), 1);
    due("8 no room", x.room(3, 0), BAD);
    due("8 below", x.room(-1, 0), BAD);
    due("8 what above", x.room(0, 4), BAD);
    due("8 what below", x.room(0, -1), BAD);
  }

  private static void promise9() {
    LitWick x = Checks.told("r;c1 0;c2 0;");
    due("9 lit", x.lights(0, 1), 1);
    due("9 two", x.lights(1, 1), 2);
    due("9 so already", x.lights(1, 1), STATE);
    due("9 blown", x.lights(1, 0), 1);
    due("9 blown already", x.lights(1, 0), STATE);
    x.minutes(1);
    due("9 nothing left", x.lights(0, 1), STATE);
    due("9 nothing left to blow", x.lights(0, 0), STATE);
    due("9 no candle", x.lights(2, 1), BAD);
    due("9 below", x.lights(-1, 1), BAD);
    due("9 is above", x.lights(0, 2), BAD);
    due("9 is below", x.lights(0, -1), BAD);
  }

  private static void promise10() {
    LitWick x = Checks.told("r;r;r;d0 1;d1 2;d0 0;c5 0;");
    due("10 shut", x.carries(0, 1), STATE);
    x.opens(2, 1);
    due("10 a window leads nowhere", x.carries(0, 1), STATE);
    due("10 there, by a window", x.carries(0, 0), STATE);
    x.opens(0, 1); x.opens(1, 1); x.lights(0, 1);
    due("10 two doors away", x.carries(0, 2), STATE);
    due("10 one", x.carries(0, 1), 0);
    due("10 still lit", x.now(2), 1);
    due("10 two", x.carries(0, 2), 1);
    due("10 and back", x.carries(0, 1), 2);
    due("10 no candle", x.carries(1, 0), BAD);
    due("10 no room", x.carries(0, 3), BAD);
    due("10 room below", x.carries(0, -1), BAD);
    due("10 candle below", x.carries(-1, 0), BAD);
  }

  private static void promise11() {
    LitWick x = Checks.told("r;c5 0;c5 0;");
    due("11 not so", x.shields(0, 0), STATE);
    due("11 one", x.shields(0, 1), 1);
    due("11 two", x.shields(1, 1), 2);
    due("11 so", x.shields(1, 1), STATE);
    due("11 no more", x.shields(0, 0), 1);
    due("11 no candle", x.shields(2, 1), BAD);
    due("11 below", x.shields(-1, 1), BAD);
    due("11 is", x.shields(0, 2), BAD);
    due("11 is below", x.shields(0, -1), BAD);
  }

  private static void promise12() {
    LitWick x = Checks.told("r;r;d0 1;d1 0;");
    due("12 shut already", x.opens(0, 0), STATE);
    due("12 one", x.opens(1, 1), 1);
    due("12 two", x.opens(0, 1), 2);
    due("12 open already", x.opens(0, 1), STATE);
    due("12 shut", x.opens(1, 0), 1);
    due("12 no door", x.opens(2, 1), BAD);
    due("12 below", x.opens(-1, 1), BAD);
    due("12 is", x.opens(0, 2), BAD);
    due("12 is below", x.opens(0, -1), BAD);
  }

  private static void promise13() {
    LitWick x = Checks.told("r;c5 0;a1 1 0 9;a2 1 0 9;a3 1 0 9;");
    x.lights(0, 1);
    due("13 one", x.begins(0), 1);
    due("13 was begun", x.begins(0), STATE);
    due("13 two", x.begins(1), 2);
    x.minutes(1);
    due("13 whole ones do not count", x.begins(2), 2);
    due("13 was whole", x.begins(0), STATE);
    x.lights(0, 0);
    x.minutes(1);
    due("13 was void", x.begins(1), STATE);
    due("13 no act", x.begins(3), BAD);
    due("13 below", x.begins(-1), BAD);
  }

  private static void promise14() {
    LitWick x = Checks.told("r;c2 0;a2 1 0 9;a3 1 0 9;a1 1 0 1;");
    x.lights(0, 1); x.begins(0); x.begins(1); x.begins(2);
    due("14 one void", x.minutes(1), 1);
    due("14 none", x.minutes(1), 0);
    due("14 gutters, void", x.minutes(60), 1);
    due("14 below", x.minutes(0), BAD);
    due("14 above", x.minutes(61), BAD);
    due("14 negative", x.minutes(-5), BAD);
    for (int i = 0; i < 15; i++) x.minutes(60);
    due("14 minute", x.now(0), 962);
    due("14 would be 1000", x.minutes(38), STATE);
    due("14 to 999", x.minutes(37), 0);
    due("14 the last", x.now(0), 999);
    due("14 no more", x.minutes(1), STATE);
    due("14 bad goes ahead", x.minutes(61), BAD);
    due("14 ten are known", x.undo(), 9);
    due("14 a minute by itself", x.now(0), 998);
  }

  private static void promise15() {
    LitWick x = Checks.told("r;r;d0 1;c5 0;a3 1 0 9;");
    due("15 none", x.undo(), STATE);
    x.lights(0, 1); x.shields(0, 1); x.opens(0, 1); x.carries(0, 1); x.begins(0); x.minutes(1);
    x.wants(5);
    due("15 minute", x.undo(), 5);
    due("15 minute back", x.now(0), 0);
    due("15 left back", x.candle(0, 1), 5);
    due("15 wax back", x.room(1, 0), 0);
    due("15 act back", x.act(0, 4), 1);
    due("15 begun", x.undo(), 4);
    due("15 not begun", x.act(0, 4), 0);
    due("15 carried", x.undo(), 3);
    due("15 room back", x.candle(0, 2), 0);
    due("15 opened", x.undo(), 2);
    due("15 shut again", x.now(3), 0);
    due("15 shielded", x.undo(), 1);
    due("15 no shield", x.candle(0, 4), 0);
    due("15 lit", x.undo(), 0);
    due("15 not lit", x.now(2), 0);
    due("15 no more", x.undo(), STATE);
    due("15 wanted stays", x.count(5), 1);
    x.lights(0, 1);
    x.minutes(10);
    for (int i = 9; i >= 0; i--) due("15 ring " + i, x.undo(), i);
    due("15 older ones are lost", x.undo(), STATE);
    due("15 lit was lost", x.now(2), 1);
  }

  private static void promise16() {
    LitWick x = Checks.told("r;r;d0 1;d1 1;c5 0;c5 1;a1 7 0 9;a2 9 0 9;a9 5 1 9;w1 0 1;");
    due("16 wind", x.now(1), 1);
    x.lights(1, 1); x.lights(0, 1); x.begins(0); x.begins(1); x.begins(2);
    x.minutes(1);
    x.opens(1, 1);
    due("16 minute", x.now(0), 1);
    due("16 still", x.now(1), 0);
    due("16 lit", x.now(2), 3);
    due("16 open", x.now(3), 2);
    due("16 whole", x.now(4), 1);
    due("16 void", x.now(5), 0);
    due("16 worth", x.now(6), 7);
    x.minutes(2);
    due("16 blown", x.now(2), 1);
    due("16 whole two", x.now(4), 3);
    due("16 void two", x.now(5), 4);
    due("16 worth two", x.now(6), 16);
    due("16 wind comes round", x.now(1), 1);
    due("16 above", x.now(7), BAD);
    due("16 below", x.now(-1), BAD);
  }

  private static void promise17() {
    LitWick x = Checks.told("r;c4 0;a2 1 0 9;a3 1 0 9;a9 1 0 9;");
    x.lights(0, 1); x.begins(0); x.begins(2);
    due("17 now", x.comes(0, 0), 1);
    due("17 soon", x.comes(0, 1), 1);
    due("17 whole", x.comes(0, 2), 2);
    due("17 whole stays", x.comes(0, 60), 2);
    due("17 not begun", x.comes(1, 60), 0);
    due("17 lit still", x.comes(2, 4), 1);
    due("17 guttered", x.comes(2, 5), 3);
    due("17 nothing changes", x.now(0), 0);
    due("17 nothing to undo more", x.count(6), 3);
    due("17 n above", x.comes(0, 61), BAD);
    due("17 n below", x.comes(0, -1), BAD);
    due("17 no act", x.comes(3, 1), BAD);
    due("17 below", x.comes(-1, 1), BAD);
  }

  private static void promise18() {
    LitWick x = Checks.told("r;r;c4 0;c4 1;a9 1 0 9;a9 1 1 9;a3 1 1 0;");
    due("18 none begun", x.first(0), NONE);
    x.lights(0, 1); x.lights(1, 1); x.begins(1); x.begins(0);
    due("18 the least", x.first(0), 0);
    due("18 behind five", x.first(1), 5);
    x.begins(2);
    due("18 sooner", x.first(0), 2);
    due("18 behind three", x.first(1), 3);
    x.minutes(3);
    due("18 void ones do not become it", x.first(0), 0);
    due("18 behind two", x.first(1), 2);
    x.minutes(2);
    due("18 all void", x.first(0), NONE);
    due("18 all void, behind", x.first(1), NONE);
    due("18 above", x.first(2), BAD);
    due("18 below", x.first(-1), BAD);
  }

  private static void promise19() {
    LitWick x = Checks.told("r;c9 0;a2 3 0 9;a3 4 0 0;a5 7 0 9;a2 3 0 9;a1 0 0 9;");
    due("19 nothing", x.bestActs(0, 0), 0);
    due("19 nothing worth", x.bestActs(0, 1), 0);
    due("19 worth nothing is left out", x.bestActs(1, 0), 0);
    due("19 least bits", x.bestActs(2, 0), 1);
    due("19 both", x.bestActs(4, 0), 9);
    due("19 of as much worth the least bits", x.bestActs(5, 0), 3);
    due("19 worth", x.bestActs(5, 1), 7);
    due("19 least bits again", x.bestActs(7, 0), 5);
    due("19 all but the worthless", x.bestActs(99, 0), 15);
    x.lights(0, 1); x.begins(0); x.begins(3);
    x.minutes(2);
    due("19 what rests on a whole one", x.bestActs(3, 0), 2);
    due("19 whole ones are worth nothing more", x.bestActs(3, 1), 4);
    due("19 whole ones are not in it", x.bestActs(99, 0), 6);
    x.lights(0, 0); x.begins(2);
    x.minutes(1);
    due("19 void ones neither", x.bestActs(99, 0), 2);
    due("19 t below", x.bestActs(-1, 0), BAD);
    due("19 t above", x.bestActs(100, 0), BAD);
    due("19 what below", x.bestActs(1, -1), BAD);
    due("19 what above", x.bestActs(1, 2), BAD);
    LitWick y = Checks.told("r;a5 5 0 9;a1 1 0 0;a4 5 0 9;");
    due("19 fewer minutes", y.bestActs(5, 0), 4);
    y.begins(0); y.minutes(1);
    due("19 nothing rests on a void one", y.bestActs(99, 0), 4);
    LitWick z = Checks.told("r;c3 0;a4 5 0 9;");
    z.lights(0, 1); z.begins(0); z.minutes(2);
    due("19 a begun one needs all that it needs", z.bestActs(3, 0), 0);
    due("19 and no more", z.bestActs(4, 0), 1);
  }

  private static void promise20() {
    LitWick x = Checks.told("r;r;r;d2 1;d0 1;d0 0;c9 0;c9 1;a3 1 0 9;a3 1 1 0;a3 1 2 9;w0 0 1;");
    x.lights(0, 1); x.lights(1, 1);
    due("20 the least of two doors", x.plot(0), 2);
    due("20 what it rests on is not begun", x.plot(1), 0);
    x.begins(0);
    due("20 the least of its own and what it rests on", x.plot(1), 1);
    due("20 dark", x.plot(2), 0);
    due("20 nothing changes", x.act(1, 4), 0);
    x.shields(0, 1);
    due("20 shielded", x.plot(0), NONE);
    x.opens(0, 1);
    due("20 open already", x.plot(1), 0);
    x.minutes(3);
    due("20 whole", x.plot(0), STATE);
    due("20 no act", x.plot(3), BAD);
    due("20 below", x.plot(-1), BAD);
    LitWick y = Checks.told("r;r;r;d0 0;d1 1;d0 1;c9 0;c9 0;a2 1 0 9;w1;");
    y.lights(0, 1);
    due("20 of the fewest the least bits", y.plot(0), 1);
    y.lights(0, 0); y.begins(0); y.minutes(1);
    due("20 void", y.plot(0), STATE);
  }

  private static void promise21() {
    LitWick x = Checks.told("r;r;d0 1;d0 0;d1 1;c9 0;a3 1 0 9;a1 1 1 9;w0 1;");
    due("21 dark", x.guard(0), NONE);
    x.lights(0, 1);
    due("21 holds as it is", x.guard(0), 0);
    x.opens(0, 1); x.opens(1, 1); x.opens(2, 1);
    due("21 both at the room", x.guard(0), 3);
    due("21 nothing changes", x.now(3), 7);
    due("21 no light", x.guard(1), NONE);
    x.shields(0, 1);
    due("21 shielded", x.guard(0), 0);
    x.begins(0); x.begins(1); x.minutes(3);
    due("21 whole", x.guard(0), STATE);
    due("21 void", x.guard(1), STATE);
    due("21 no act", x.guard(2), BAD);
    due("21 below", x.guard(-1), BAD);
  }

  private static void promise22() {
    LitWick x = Checks.told("r;a1 1 0 9;a1 1 0 0;a1 1 0 9;a1 1 0 1;a1 1 0 2;a1 1 0 3;");
    due("22 a chain", x.falls(0), 43);
    due("22 its middle", x.falls(1), 42);
    due("22 another", x.falls(2), 20);
    due("22 alone", x.falls(5), 32);
    due("22 no act", x.falls(6), BAD);
    due("22 below", x.falls(-1), BAD);
  }

  private static void promise23() {
    LitWick x = new LitWick();
    due("23 below", x.wants(0), BAD);
    due("23 above", x.wants(61), BAD);
    due("23 least", x.wants(1), 1);
    due("23 most", x.wants(60), 2);
    for (int i = 3; i <= 6; i++) due("23 " + i, x.wants(5), i);
    due("23 full", x.wants(5), FULL);
    due("23 bad goes ahead of full", x.wants(0), BAD);
  }

  private static void promise24() {
    LitWick x = new LitWick();
    due("24 none", x.forget(), 0);
    x.wants(3); x.wants(3);
    due("24 two", x.forget(), 2);
    due("24 none then", x.count(5), 0);
    due("24 wanted anew", x.wants(4), 1);
  }

  private static void promise25() {
    LitWick x = Checks.told("r;c10 0;c9 0;c6 0;c5 0;");
    due("25 nothing wanted", x.cut(-1), 0);
    due("25 nothing over", x.cut(-2), 0);
    due("25 no piece", x.cut(0), BAD);
    x.wants(5);
    due("25 one", x.cut(-1), 1);
    due("25 least over", x.cut(-2), 0);
    due("25 its candle", x.cut(0), 3);
    x.wants(4);
    due("25 one for both", x.cut(-1), 1);
    due("25 both from 9", x.cut(0), 1);
    x.wants(6);
    due("25 two", x.cut(-1), 2);
    due("25 none over", x.cut(-2), 0);
    due("25 first piece", x.cut(0), 1);
    due("25 second piece", x.cut(1), 1);
    due("25 third piece", x.cut(2), 2);
    x.lights(2, 1);
    due("25 lit ones are not cut", x.cut(0), 3);
    due("25 second from another", x.cut(1), 0);
    due("25 third from another", x.cut(2), 0);
    x.lights(3, 1);
    due("25 two with some over", x.cut(-2), 4);
    due("25 the first of the ways", x.cut(0) * 100 + x.cut(1) * 10 + x.cut(2), 1);
    x.lights(3, 0);
    x.lights(2, 0);
    x.wants(60);
    due("25 no way", x.cut(-1), NONE);
    due("25 no way, over", x.cut(-2), NONE);
    due("25 no way, a piece", x.cut(3), NONE);
    due("25 bad goes ahead of none", x.cut(4), BAD);
    due("25 below", x.cut(-3), BAD);
    LitWick y = Checks.told("r;c6 0;c6 0;c6 0;");
    y.wants(3); y.wants(3); y.wants(3);
    due("25 piece by piece the lesser", y.cut(0) * 100 + y.cut(1) * 10 + y.cut(2), 1);
    due("25 over", y.cut(-2), 3);
    LitWick w = Checks.told("r;c9 0;c9 0;c9 0;c9 0;c9 0;c9 0;");
    for (int i = 0; i < 6; i++) w.wants(8);
    due("25 all six", w.cut(-1), 6);
    due("25 over of six", w.cut(-2), 6);
    due("25 each from the next", w.cut(0) * 10 + w.cut(5), 5);
    w.wants(1);
    w.lights(5, 1);
    due("25 no sixth", w.cut(-1), NONE);
    LitWick z = Checks.told("r;c5 0;");
    z.lights(0, 1); z.minutes(2); z.lights(0, 0); z.wants(4);
    due("25 only what is left", z.cut(-1), NONE);
    z.forget(); z.wants(3);
    due("25 all that is left", z.cut(-2), 0);
  }

  private static void promise26() {
    LitWick x = Checks.told("r;r;r;d0 1;c5 0;c5 0;c5 1;");
    due("26 all sets at first", x.shown(0, 0), 8);
    due("26 the empty one", x.shown(0, 1), 0);
    x.lights(0, 1); x.lights(1, 1); x.lights(2, 1);
    x.minutes(2);
    due("26 pairs", x.shown(0, 0), 3);
    due("26 least pair", x.shown(0, 1), 3);
    due("26 singles", x.shown(1, 0), 3);
    due("26 least single", x.shown(1, 1), 1);
    due("26 no wax", x.shown(2, 0), 1);
    x.opens(0, 1); x.carries(0, 1); x.lights(1, 0); x.lights(2, 0);
    x.minutes(1);
    due("26 of any room", x.shown(0, 1), 6);
    due("26 three minutes", x.shown(1, 1), 1);
    LitWick y = Checks.told("r;r;d0 1;c5 0;");
    y.lights(0, 1); y.opens(0, 1); y.minutes(1); y.carries(0, 1); y.minutes(1);
    due("26 none fit", y.shown(0, 0), 0);
    due("26 the least of none", y.shown(0, 1), NONE);
    due("26 no room", y.shown(2, 0), BAD);
    due("26 below", y.shown(-1, 0), BAD);
    due("26 what above", y.shown(0, 2), BAD);
    due("26 what below", y.shown(0, -1), BAD);
  }

  private static void promise27() {
    LitWick x = Checks.told("r;d0 0;c9 0;a2 1 0 9;a4 1 0 9;a1 1 0 9;w0 0 1;");
    x.lights(0, 1); x.opens(0, 1);
    due("27 upper", x.odds(0, 3, 6, 0), 49);
    due("27 lower", x.odds(0, 3, 6, 1), 100);
    due("27 less terms", x.odds(0, 5, 1, 0), 1);
    due("27 lesser terms", x.odds(0, 5, 1, 1), 2);
    due("27 later as told", x.odds(1, 5, 2, 0), 0);
    due("27 none is 0 of 1", x.odds(1, 5, 2, 1), 1);
    due("27 in place of what is told", x.odds(1, 0, 4, 0), 1);
    due("27 sure", x.odds(1, 0, 4, 1), 1);
    due("27 ten in ten", x.odds(0, 10, 1, 0), 0);
    due("27 no minutes", x.odds(0, 10, 0, 0), 1);
    due("27 nothing changes", x.act(0, 4), 0);
    due("27 x above", x.odds(0, 11, 0, 0), BAD);
    due("27 x below", x.odds(0, -1, 0, 0), BAD);
    due("27 n above", x.odds(0, 1, 7, 0), BAD);
    due("27 n below", x.odds(0, 1, -1, 0), BAD);
    due("27 what above", x.odds(0, 1, 1, 2), BAD);
    due("27 what below", x.odds(0, 1, 1, -1), BAD);
    due("27 no act", x.odds(3, 1, 1, 0), BAD);
    due("27 below", x.odds(-1, 1, 1, 0), BAD);
    x.begins(2); x.minutes(1);
    due("27 whole", x.odds(2, 1, 1, 0), STATE);
    due("27 bad goes ahead", x.odds(2, 11, 1, 0), BAD);
    x.begins(0); x.lights(0, 0); x.minutes(1);
    due("27 void", x.odds(0, 1, 1, 1), STATE);
  }

  private static void promise28() {
    LitWick x = Checks.told("r;r;r;c5 0;c20 2;");
    x.lights(0, 1); x.lights(1, 1); x.minutes(3);
    due("28 candle", x.mark(0, 1), 17);
    due("28 tallow", x.mark(1, 1), 37);
    due("28 beeswax", x.mark(2, 1), 15);
    due("28 stub", x.mark(3, 1), 74);
    due("28 church", x.mark(4, 1), 17);
    due("28 lamp", x.mark(5, 1), 20);
    due("28 kind above", x.mark(6, 1), NO);
    due("28 kind below", x.mark(-1, 1), NO);
    due("28 no candle", x.mark(0, 2), NO);
    due("28 below", x.mark(0, -1), NO);
    x.minutes(2); x.lights(1, 0);
    due("28 of a burned one", x.mark(2, 0), 0);
    due("28 none lit", x.mark(4, 1), 13);
  }

  private static void promise29() {
    LitWick x = Checks.told("r;c5 0;");
    due("29 at first", x.keep(0), 0);
    x.minutes(7);
    due("29 at 7", x.keep(1), 7);
    due("29 nothing to undo by it", x.count(6), 7);
    due("29 above", x.keep(2), BAD);
    due("29 below", x.keep(-1), BAD);
    due("29 anew", x.keep(0), 7);
    due("29 the newest", x.back(0), 7);
  }

  private static void promise30() {
    LitWick x = Checks.told("r;r;d0 1;c9 0;a3 1 0 9;");
    due("30 none", x.back(1), STATE);
    due("30 above", x.back(2), BAD);
    due("30 below", x.back(-1), BAD);
    x.lights(0, 1); x.begins(0); x.minutes(1);
    x.keep(0);
    x.opens(0, 1); x.shields(0, 1); x.carries(0, 1); x.wants(4); x.mark(0, 0); x.type('r'); x.minutes(12);
    due("30 back", x.back(0), 1);
    due("30 left", x.candle(0, 1), 8);
    due("30 room", x.candle(0, 2), 0);
    due("30 shield", x.candle(0, 4), 0);
    due("30 door", x.now(3), 0);
    due("30 act", x.act(0, 4), 1);
    due("30 had", x.act(0, 5), 1);
    due("30 wax", x.room(1, 0), 0);
    due("30 undone", x.count(6), 3);
    due("30 wanted stays", x.count(5), 1);
    due("30 the trace stays", x.trace(), 1);
    due("30 the text stays", x.count(7), 1);
    due("30 undo as kept", x.undo(), 2);
    due("30 minute ahead of it", x.now(0), 0);
    due("30 undo begun", x.undo(), 1);
    due("30 not begun", x.act(0, 4), 0);
    due("30 again", x.back(0), 1);
    due("30 with all to undo", x.count(6), 3);
    due("30 the other is none", x.back(1), STATE);
  }

  private static void promise31() {
    LitWick x = Checks.told("r;r;r;d0 1;d0 1;c5 0;a1 1 0 9;a1 1 0 9;a1 1 0 9;a1 1 0 9;w0 1 1 0 0;");
    due("31 rooms", x.count(0), 3);
    due("31 doors", x.count(1), 2);
    due("31 candles", x.count(2), 1);
    due("31 acts", x.count(3), 4);
    due("31 wind", x.count(4), 5);
    x.wants(1); x.wants(2);
    due("31 wanted", x.count(5), 2);
    x.minutes(4);
    due("31 undone", x.count(6), 4);
    x.minutes(20);
    due("31 ten at most", x.count(6), 10);
    x.type(1); x.type(2); x.type(3);
    due("31 bytes", x.count(7), 3);
    due("31 above", x.count(8), BAD);
    due("31 below", x.count(-1), BAD);
  }

  private static void promise32() {
    LitWick x = Checks.told("r;c5 0;");
    long[] each = {1, 11, 101, 1011, 10101, 100001};
    long sum = 0;
    for (int kind = 0; kind < 6; kind++) {
      x.mark(kind, 0);
      sum += each[kind];
      due("32 kind " + kind, x.trace(), sum);
    }
    x.mark(6, 0); x.mark(0, 1);
    due("32 what is refused leaves none", x.trace(), sum);
    x.minutes(1); x.keep(0); x.mark(0, 0); x.undo(); x.back(0);
    due("32 nothing takes it back", x.trace(), sum + 1);
  }

  /** The order of things within a minute. */
  private static void minuteRules() {
    LitWick x = Checks.told("r;r;d0 1;c1 0;c9 1;a1 1 0 9;a1 1 1 0;a2 1 1 1;a1 1 0 9;w0 1;");
    x.lights(0, 1); x.lights(1, 1); x.begins(0); x.begins(1); x.begins(2);
    due("minute: a last minute still lights", x.minutes(1), 0);
    due("minute: in the same minute, by numbers", x.now(4), 3);
    due("minute: burned out", x.now(2), 2);
    x.begins(3);
    due("minute: wind and a shut door", x.minutes(1), 1);
    due("minute: whole by what was whole ahead", x.now(4), 7);
    x.opens(0, 1);
    x.minutes(1);
    due("minute: no wind", x.now(2), 2);
    int left = x.candle(1, 1);
    x.minutes(1);
    due("minute: the other side of a door", x.now(2), 0);
    due("minute: blown out ahead of burning", x.candle(1, 1), left);
    LitWick y = Checks.told("r;c9 0;a1 1 0 9;a2 1 0 0;w1;");
    y.lights(0, 1); y.begins(1); y.minutes(1); y.begins(0);
    due("minute: the lesser is whole first", y.minutes(1), 0);
    LitWick z = Checks.told("r;c9 0;a2 1 0 9;a1 1 0 0;");
    z.lights(0, 1); z.begins(0); z.begins(1);
    due("minute: rests on what is not whole yet", z.minutes(1), 1);
    due("minute: void with all its minutes", z.act(1, 5), 1);
    LitWick w = Checks.told("r;d0 0;c9 0;c9 0;a5 1 0 9;w1;");
    w.opens(0, 1); w.lights(0, 1); w.lights(1, 1); w.shields(1, 1); w.begins(0);
    due("minute: a shielded one lights on", w.minutes(5), 0);
    due("minute: it alone", w.now(2), 2);
    due("minute: whole by it", w.now(4), 1);
  }

  private static void refusalsChangeNothing() {
    LitWick x = Checks.told("r;r;d0 1;c1 0;a1 1 0 9;");
    x.lights(1, 1); x.lights(0, 2); x.lights(0, 0); x.carries(0, 1); x.carries(0, 2); x.shields(0, 0); x.shields(1, 1);
    x.opens(0, 0); x.opens(1, 1); x.begins(1); x.minutes(0); x.minutes(61); x.undo(); x.wants(0); x.back(0); x.type(300);
    for (int what = 5; what <= 7; what++) due("refused: count " + what, x.count(what), 0);
    for (int what = 0; what <= 6; what++) due("refused: now " + what, x.now(what), 0);
    due("refused: room", x.candle(0, 2), 0);
  }
}
