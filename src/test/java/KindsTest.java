/** Promises 28 to 32, sentence by sentence: marks by kinds, images, counts and the trace. */
public final class KindsTest extends Sentences {
  public static void main(String[] args) { run(KindsTest.class); }

  /** In minute 3: candle 1 has 17 left of 20 and is in room 2; two are lit. */
  private static LitWick burning() {
    LitWick x = told("r;r;r;c9 0;c20 2;c5 0;");
    x.lights(0, 1);
    x.lights(1, 1);
    x.minutes(3);
    return x;
  }

  // ---- promise 28: mark

  static void promise28_ofACandleIsWhatIsLeft() { due(burning().mark(0, 1), 17); }

  static void promise28_ofTallowIsThatAndItsLength() { due(burning().mark(1, 1), 37); }

  static void promise28_ofBeeswaxIsWhatIsLeftLessItsRoom() { due(burning().mark(2, 1), 15); }

  static void promise28_ofAStubIsTallowsTimes2() { due(burning().mark(3, 1), 74); }

  static void promise28_ofAChurchOneIsBeeswaxsAndHowManyAreLit() { due(burning().mark(4, 1), 17); }

  static void promise28_ofALampIsWhatIsLeftAndTheMinute() { due(burning().mark(5, 1), 20); }

  static void promise28_mayBeBelow0() {
    LitWick x = told("r;r;r;r;r;c1 4;");
    x.lights(0, 1);
    x.minutes(1);
    due(x.mark(2, 0), -4);
    due(x.mark(4, 0), -4);
  }

  static void promise28_ofTheLongest() {
    LitWick x = told(FULLEST);
    for (int c = 0; c < 6; c++) x.lights(c, 1);
    due(x.mark(1, 5), 120);
    due(x.mark(3, 5), 240);
    due(x.mark(4, 5), 66);
  }

  static void promise28_ofALampInMinute999() {
    LitWick x = told("r;c60 0;");
    pass(x, 999);
    due(x.mark(5, 0), 1059);
  }

  static void promise28_itsRoomIsWhereItIsNow() {
    LitWick x = told("r;r;d0 1;c5 0;");
    x.opens(0, 1);
    x.carries(0, 1);
    due(x.mark(2, 0), 4);
  }

  static void promise28_noSuchKindIsNo() {
    refused(Sentences::busy, x -> x.mark(-1, 0), NO);
    refused(Sentences::busy, x -> x.mark(6, 0), NO);
  }

  static void promise28_noSuchCandleIsNo() {
    for (int kind = 0; kind <= 5; kind++) {
      int k = kind;
      refused(Sentences::busy, x -> x.mark(k, -1), NO);
      refused(Sentences::busy, x -> x.mark(k, 3), NO);
    }
    due(told(FULLEST).mark(0, 6), NO);
  }

  static void promise28_numbersOutsideAreNo() {
    outside(0, 5, (x, n) -> x.mark(n, 0), NO);
    outside(0, 2, (x, n) -> x.mark(0, n), NO);
  }

  static void promise28_changesNothingButTheTrace() {
    for (int kind = 0; kind <= 5; kind++) {
      LitWick x = made(Sentences::busy), y = made(Sentences::busy);
      x.mark(kind, 0);
      due("kind " + kind, look(x).replaceFirst("\\d+$", "").equals(look(y).replaceFirst("\\d+$", "")) ? 1 : 0, 1);
    }
  }

  // ---- promise 29: keep

  static void promise29_answersTheMinute() {
    LitWick x = told("r;");
    due(x.keep(0), 0);
    pass(x, 999);
    due(x.keep(1), 999);
  }

  static void promise29_aNewObjectMayBeKept() {
    LitWick x = new LitWick();
    due(x.keep(0), 0);
    x.minutes(5);
    due(x.back(0), 0);
    due(x.now(0), 0);
  }

  static void promise29_keptAnewTheOlderIsGone() {
    LitWick x = told("r;");
    x.keep(0);
    x.minutes(5);
    due(x.keep(0), 5);
    x.minutes(5);
    due(x.back(0), 5);
  }

  static void promise29_theTwoAreApart() {
    LitWick x = told("r;");
    x.minutes(1);
    x.keep(0);
    x.minutes(1);
    x.keep(1);
    x.minutes(1);
    due(x.back(0), 1);
    due(x.back(1), 2);
    due(x.back(0), 1);
  }

  static void promise29_whatIsDoneLaterIsNotInIt() {
    LitWick x = told("r;c5 0;");
    x.keep(0);
    x.lights(0, 1);
    x.undo();
    x.lights(0, 1);
    x.minutes(2);
    x.back(0);
    due(x.now(2), 0);
    due(x.candle(0, 1), 5);
  }

  static void promise29_noSuchImageIsBad() {
    refused(Sentences::busy, x -> x.keep(-1), BAD);
    refused(Sentences::busy, x -> x.keep(2), BAD);
  }

  static void promise29_numbersOutsideAreBad() { outside(0, 1, (x, n) -> x.keep(n), BAD); }

  static void promise29_changesNothingButTheImage() {
    alike(x -> { busy(x); x.keep(0); x.back(0); x.keep(0); }, x -> { busy(x); x.keep(0); });
    LitWick x = made(Sentences::busy), y = made(Sentences::busy);
    x.keep(1);
    due(look(x).equals(look(y)) ? 1 : 0, 1);
    due(x.back(0), 2);
  }

  // ---- promise 30: back

  /** From a kept night to another, by everything that can be done, and back. */
  private static void doesAll(LitWick x) {
    x.lights(0, 0);
    x.lights(2, 1);
    x.shields(2, 0);
    x.shields(1, 1);
    x.carries(0, 1);
    x.opens(2, 1);
    x.opens(0, 0);
    x.begins(3);
    x.minutes(3);
  }

  static void promise30_answersTheMinute() {
    due(made(Sentences::busy, KindsTest::doesAll).back(0), 2);
  }

  static void promise30_allOfThatBecomesAsKept() {
    alike(x -> { quiet(x); x.keep(1); doesAll(x); x.back(1); }, x -> { quiet(x); x.keep(1); });
  }

  static void promise30_theMinuteBecomesAsKept() {
    LitWick x = made(Sentences::busy, KindsTest::doesAll);
    due(x.now(0), 5);
    x.back(0);
    due(x.now(0), 2);
  }

  static void promise30_theCandlesBecomeAsKept() {
    LitWick x = made(Sentences::busy, KindsTest::doesAll);
    x.back(0);
    due(x.now(2), 1);
    due(x.candle(0, 1), 3);
    due(x.candle(0, 2), 0);
    due(x.candle(1, 4), 0);
    due(x.candle(2, 4), 1);
    due(x.candle(2, 1), 9);
  }

  static void promise30_theDoorsBecomeAsKept() {
    LitWick x = made(Sentences::busy, KindsTest::doesAll);
    due(x.now(3), 6);
    x.back(0);
    due(x.now(3), 1);
  }

  static void promise30_theActsBecomeAsKept() {
    LitWick x = made(Sentences::busy, KindsTest::doesAll);
    due(x.now(5), 14);
    x.back(0);
    due(x.now(5), 2);
    due(x.act(2, 4), 1);
    due(x.act(3, 4), 0);
    due(x.act(1, 5), 1);
  }

  static void promise30_theWaxBecomesAsKept() {
    LitWick x = made(Sentences::busy);
    x.opens(0, 0);
    x.opens(1, 0);
    x.minutes(1);
    due(x.room(0, 0), 3);
    x.back(0);
    due(x.room(0, 0), 2);
    due(x.room(1, 0), 1);
  }

  static void promise30_whatMayBeUndoneBecomesAsKept() {
    LitWick x = told("r;c60 0;");
    x.lights(0, 1);
    x.minutes(2);
    x.keep(0);
    x.minutes(20);
    x.back(0);
    due(x.count(6), 3);
    due(x.undo(), 2);
    due(x.now(0), 1);
    due(x.undo(), 1);
    due(x.undo(), 0);
    due(x.now(2), 0);
    due(x.undo(), STATE);
  }

  static void promise30_tenThatMayBeUndoneBecomeAsKept() {
    LitWick x = told("r;c60 0;");
    x.minutes(13);
    x.keep(0);
    x.lights(0, 1);
    x.minutes(4);
    x.back(0);
    for (int more = 9; more >= 0; more--) {
      due("more", x.undo(), more);
      due("minute", x.now(0), more + 3);
    }
    due(x.undo(), STATE);
  }

  static void promise30_nothingMayBeUndoneIfNothingMightBe() {
    LitWick x = told("r;");
    x.keep(0);
    x.minutes(5);
    x.back(0);
    due(x.undo(), STATE);
  }

  static void promise30_isNotItselfUndone() {
    LitWick x = told("r;c5 0;");
    x.lights(0, 1);
    x.keep(0);
    x.minutes(2);
    x.back(0);
    due(x.count(6), 1);
    x.undo();
    due(x.now(0), 0);
    due(x.now(2), 0);
  }

  static void promise30_theImageStaysKept() {
    LitWick x = made(Sentences::busy, KindsTest::doesAll);
    due(x.back(0), 2);
    x.undo();
    x.minutes(7);
    due(x.back(0), 2);
    due(x.count(6), 9);
  }

  static void promise30_theOtherImageStays() {
    LitWick x = made(Sentences::busy, KindsTest::doesAll);
    x.keep(1);
    due(x.back(0), 2);
    due(x.back(1), 5);
  }

  static void promise30_anImageMayBeLaterThanNow() {
    LitWick x = told("r;");
    x.minutes(5);
    x.keep(0);
    times(3, () -> x.undo());
    due(x.now(0), 2);
    due(x.back(0), 5);
    due(x.count(6), 5);
  }

  static void promise30_leavesWhatIsWanted() {
    LitWick x = made(Sentences::busy);
    x.wants(9);
    x.back(0);
    due(x.count(5), 3);
    x.forget();
    x.back(0);
    due(x.count(5), 0);
  }

  static void promise30_leavesTheText() {
    LitWick x = made(Sentences::busy);
    x.type(';');
    x.back(0);
    due(x.count(7), 4);
    due(x.house(), 2);
  }

  static void promise30_leavesTheTrace() {
    LitWick x = made(Sentences::busy);
    x.mark(0, 0);
    x.back(0);
    due(x.trace(), 1012);
  }

  static void promise30_noneKeptIsState() {
    refused(Sentences::busy, x -> x.back(1), STATE);
    refused(x -> { tell(x, "r;"); x.minutes(1); x.keep(1); x.minutes(1); }, x -> x.back(0), STATE);
  }

  static void promise30_noneKeptSinceTheTextWasReadIsState() {
    refused(x -> { busy(x); x.keep(1); tell(x, "r;"); }, x -> x.back(0), STATE);
    refused(x -> { busy(x); x.keep(1); tell(x, "r;"); }, x -> x.back(1), STATE);
  }

  static void promise30_aFaultLeavesTheImages() {
    LitWick x = made(Sentences::busy);
    due(x.house(), -13);
    due(x.back(0), 2);
  }

  static void promise30_noSuchImageIsBad() {
    refused(Sentences::busy, x -> x.back(-1), BAD);
    refused(Sentences::busy, x -> x.back(2), BAD);
  }

  static void promise30_numbersOutsideAreBad() { outside(0, 1, (x, n) -> x.back(n), BAD); }

  static void promise30_badGoesAheadOfState() {
    due(new LitWick().back(-1), BAD);
    due(new LitWick().back(2), BAD);
  }

  // ---- promise 31: count

  static void promise31_theMostOfEach() {
    LitWick x = told(FULLEST);
    due("rooms", x.count(0), 5);
    due("doors", x.count(1), 5);
    due("candles", x.count(2), 6);
    due("acts", x.count(3), 6);
    due("bits", x.count(4), 8);
  }

  static void promise31_eachByItself() {
    LitWick x = told("r;r;r;d0 1;d1 2;c5 0;a1 1 0 9;a1 1 0 9;a1 1 0 9;a1 1 0 9;w0 1 1 0 0;");
    due("rooms", x.count(0), 3);
    due("doors", x.count(1), 2);
    due("candles", x.count(2), 1);
    due("acts", x.count(3), 4);
    due("bits", x.count(4), 5);
  }

  static void promise31_windThatIsNotToldHasNoBits() { due(told("r;").count(4), 0); }

  static void promise31_whatIsWanted() {
    LitWick x = new LitWick();
    for (int i = 1; i <= 6; i++) {
      x.wants(i);
      due(x.count(5), i);
    }
    x.wants(7);
    due(x.count(5), 6);
  }

  static void promise31_howManyMayBeUndone() {
    LitWick x = new LitWick();
    for (int i = 1; i <= 12; i++) {
      x.minutes(1);
      due(x.count(6), Math.min(i, 10));
    }
    x.undo();
    due(x.count(6), 9);
  }

  static void promise31_bytesOfTheText() {
    LitWick x = new LitWick();
    for (int i = 1; i <= 201; i++) {
      x.type(' ');
      due(x.count(7), Math.min(i, 200));
    }
  }

  static void promise31_noSuchWhatIsBad() {
    refused(Sentences::busy, x -> x.count(-1), BAD);
    refused(Sentences::busy, x -> x.count(8), BAD);
  }

  static void promise31_numbersOutsideAreBad() { outside(0, 7, (x, n) -> x.count(n), BAD); }

  static void promise31_changesNothing() { for (int what = 0; what <= 7; what++) { int w = what; changesNothing(Sentences::busy, x -> x.count(w)); } }

  // ---- promise 32: trace

  private static long traceOf(int kind) {
    LitWick x = told("r;c5 0;");
    x.mark(kind, 0);
    return x.trace();
  }

  static void promise32_candleAdds1() { due(traceOf(0), 1); }

  static void promise32_tallowAdds10AndCandles() { due(traceOf(1), 11); }

  static void promise32_beeswaxAdds100AndCandles() { due(traceOf(2), 101); }

  static void promise32_stubAdds1000AndTallows() { due(traceOf(3), 1011); }

  static void promise32_churchAdds10000AndBeeswaxs() { due(traceOf(4), 10101); }

  static void promise32_lampAdds100000AndCandles() { due(traceOf(5), 100001); }

  static void promise32_marksAddUp() {
    LitWick x = told("r;c5 0;c5 0;");
    times(100, () -> x.mark(4, 1));
    times(100, () -> x.mark(5, 0));
    due(x.trace(), 1010100 + 10000100);
  }

  static void promise32_askingTwiceAddsNothing() {
    LitWick x = told("r;c5 0;");
    x.mark(1, 0);
    x.trace();
    due(x.trace(), 11);
  }

  static void promise32_refusedMarksAddNothing() {
    LitWick x = told("r;c5 0;");
    x.mark(6, 0);
    x.mark(-1, 0);
    x.mark(0, 1);
    x.mark(5, -1);
    due(x.trace(), 0);
  }

  static void promise32_nothingTakesItBack() {
    LitWick x = told("r;c5 0;");
    x.keep(0);
    x.minutes(1);
    x.mark(3, 0);
    x.undo();
    x.back(0);
    x.house();
    due(x.trace(), 1011);
  }

  static void promise32_onlyMarksAddToIt() {
    LitWick x = made(Sentences::quiet, KindsTest::doesAll);
    x.cut(-1);
    x.plot(3);
    x.odds(3, 5, 6, 0);
    x.candle(0, 1);
    due(x.trace(), 0);
  }

  static void promise32_changesNothing() { changesNothing(Sentences::busy, x -> x.trace()); }
}
