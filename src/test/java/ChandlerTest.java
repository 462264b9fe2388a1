/** Promises 23 to 27, sentence by sentence: what is wanted and cut, what wax shows, and the odds of wind. */
public final class ChandlerTest extends Sentences {
  public static void main(String[] args) { run(ChandlerTest.class); }

  private static LitWick wanting(String text, int... lengths) {
    LitWick x = told(text);
    for (int length : lengths) x.wants(length);
    return x;
  }

  private static void wantsSix(LitWick x) {
    busy(x);
    times(4, () -> x.wants(1));
  }

  // ---- promise 23: wants

  static void promise23_answersHowManyAreWanted() {
    LitWick x = new LitWick();
    for (int i = 1; i <= 6; i++) due("piece " + i, x.wants(7), i);
  }

  static void promise23_length1MayBeWanted() { due(new LitWick().wants(1), 1); }

  static void promise23_length60MayBeWanted() { due(new LitWick().wants(60), 1); }

  static void promise23_length0IsBad() { refused(Sentences::busy, x -> x.wants(0), BAD); }

  static void promise23_lengthBelow0IsBad() { refused(Sentences::busy, x -> x.wants(-1), BAD); }

  static void promise23_length61IsBad() { refused(Sentences::busy, x -> x.wants(61), BAD); }

  static void promise23_numbersOutsideAreBad() { outside(1, 60, (x, n) -> x.wants(n), BAD); }

  static void promise23_aSeventhIsFull() { refused(ChandlerTest::wantsSix, x -> x.wants(1), FULL); }

  static void promise23_badGoesAheadOfFull() {
    refused(ChandlerTest::wantsSix, x -> x.wants(0), BAD);
    refused(ChandlerTest::wantsSix, x -> x.wants(61), BAD);
  }

  static void promise23_isNothingToBeUndone() {
    alike(x -> { busy(x); x.wants(5); x.forget(); }, x -> { busy(x); x.forget(); });
  }

  // ---- promise 24: forget

  static void promise24_ofNothingAnswers0() { due(new LitWick().forget(), 0); }

  static void promise24_answersHowManyWere() {
    due(made(Sentences::busy).forget(), 2);
    due(made(ChandlerTest::wantsSix).forget(), 6);
  }

  static void promise24_nothingIsWantedThen() {
    LitWick x = made(ChandlerTest::wantsSix);
    x.forget();
    due(x.count(5), 0);
    due(x.forget(), 0);
    due(x.cut(-1), 0);
  }

  static void promise24_thenOthersMayBeWanted() {
    LitWick x = made(ChandlerTest::wantsSix);
    x.forget();
    due(x.wants(9), 1);
    due(x.cut(0), 2);
  }

  static void promise24_changesNothingElse() {
    alike(x -> { busy(x); x.forget(); x.wants(4); x.wants(3); }, Sentences::busy);
  }

  // ---- promise 25: cut

  /** How many are cut, what is over, and the pieces' candles as the digits of a number. */
  private static void cuts(LitWick x, int candles, int over, String pieces) {
    due("how many", x.cut(-1), candles);
    due("over", x.cut(-2), over);
    for (int i = 0; i < pieces.length(); i++) due("piece " + i, x.cut(i), pieces.charAt(i) - '0');
    due("no more pieces", x.cut(pieces.length()), BAD);
  }

  private static void cutsNone(LitWick x) { for (int i = -2; i < x.count(5); i++) due("cut " + i, x.cut(i), NONE); }

  static void promise25_nothingWantedIsCutFromNone() {
    cuts(new LitWick(), 0, 0, "");
    cuts(told("r;c5 0;"), 0, 0, "");
  }

  static void promise25_fewestCandlesGoAheadOfLeastOver() { cuts(wanting("r;c20 0;c5 0;c5 0;", 5, 5), 1, 10, "00"); }

  static void promise25_ofFewestTheLeastOver() { cuts(wanting("r;c9 0;c7 0;c8 0;", 7), 1, 0, "1"); }

  static void promise25_leastOverGoesAheadOfTheFirst() { cuts(wanting("r;c8 0;c8 0;c5 0;c4 0;", 4, 5), 2, 0, "32"); }

  static void promise25_thenTheFirst() { cuts(wanting("r;c7 0;c7 0;", 7), 1, 0, "0"); }

  static void promise25_pieceByPieceTheLesserCandle() {
    cuts(wanting("r;c6 0;c6 0;c6 0;", 3, 3, 3), 2, 3, "001");
    cuts(wanting("r;c6 0;c6 0;c6 0;", 3, 4, 3), 2, 2, "010");
    cuts(wanting("r;c3 0;c2 0;", 2, 3), 2, 0, "10");
  }

  static void promise25_overIsOfThoseThatAreCutAlone() { cuts(wanting("r;c9 0;c60 0;", 4), 1, 5, "0"); }

  static void promise25_aPieceIsCutFromOneCandle() { cutsNone(wanting("r;c5 0;c5 0;", 8)); }

  static void promise25_aLengthMayBeAllOfACandle() { cuts(wanting("r;c60 0;", 60), 1, 0, "0"); }

  static void promise25_noLengthMayBeMoreThanACandle() { cutsNone(wanting("r;c59 0;", 60)); }

  static void promise25_severalPiecesMayTakeAllOfACandle() {
    cuts(wanting("r;c60 0;", 10, 10, 10, 10, 10, 10), 1, 0, "000000");
    cutsNone(wanting("r;c59 0;", 10, 10, 10, 10, 10, 10));
  }

  static void promise25_allSixMayBeCut() { cuts(wanting("r;" + "c9 0;".repeat(6), 8, 8, 8, 8, 8, 8), 6, 6, "012345"); }

  static void promise25_noSeventhCandleIsThere() {
    LitWick x = wanting("r;" + "c9 0;".repeat(5), 8, 8, 8, 8, 8, 8);
    cutsNone(x);
  }

  static void promise25_litOnesAreNotCut() {
    LitWick x = wanting("r;c5 0;c9 0;", 5);
    x.lights(0, 1);
    cuts(x, 1, 4, "1");
    x.lights(1, 1);
    cutsNone(x);
    x.forget();
    x.wants(1);
    cutsNone(x);
  }

  static void promise25_blownOutOnesAreCutAgain() {
    LitWick x = wanting("r;c5 0;", 5);
    x.lights(0, 1);
    x.lights(0, 0);
    cuts(x, 1, 0, "0");
  }

  static void promise25_shieldedOnesAreCut() {
    LitWick x = wanting("r;c5 0;", 5);
    x.shields(0, 1);
    cuts(x, 1, 0, "0");
  }

  static void promise25_onesOfAnyRoomAreCut() { cuts(wanting("r;r;r;c5 2;c6 1;", 5, 6), 2, 0, "01"); }

  static void promise25_whatIsLeftOfThemIsCut() {
    LitWick x = wanting("r;c9 0;", 6);
    x.lights(0, 1);
    x.minutes(3);
    x.lights(0, 0);
    cuts(x, 1, 0, "0");
    x.lights(0, 1);
    x.minutes(1);
    x.lights(0, 0);
    cutsNone(x);
  }

  static void promise25_oneWithNothingLeftIsNotCut() {
    LitWick x = wanting("r;c1 0;", 1);
    x.lights(0, 1);
    x.minutes(1);
    cutsNone(x);
  }

  static void promise25_withoutCandlesNone() {
    LitWick x = new LitWick();
    x.wants(1);
    cutsNone(x);
  }

  static void promise25_iOf5MayBeAsked() { due(wanting("r;c60 0;", 1, 1, 1, 1, 1, 1).cut(5), 0); }

  static void promise25_iOf6IsBad() { due(wanting("r;c60 0;", 1, 1, 1, 1, 1, 1).cut(6), BAD); }

  static void promise25_iBelowMinus2IsBad() { refused(Sentences::busy, x -> x.cut(-3), BAD); }

  static void promise25_iWithoutAPieceIsBad() {
    refused(Sentences::busy, x -> x.cut(2), BAD);
    due(told("r;c5 0;").cut(0), BAD);
  }

  static void promise25_numbersOutsideAreBad() { outside(-2, 1, (x, n) -> x.cut(n), BAD); }

  static void promise25_badGoesAheadOfNone() {
    LitWick x = wanting("r;c5 0;", 6);
    due(x.cut(-1), NONE);
    due(x.cut(1), BAD);
    due(x.cut(-3), BAD);
  }

  static void promise25_changesNothing() { for (int i = -2; i < 2; i++) { int piece = i; changesNothing(Sentences::busy, x -> x.cut(piece)); } }

  // ---- promise 26: shown

  private static void shows(LitWick x, int room, int sets, int least) {
    due("sets for room " + room, x.shown(room, 0), sets);
    due("least for room " + room, x.shown(room, 1), least);
  }

  static void promise26_withNothingBurnedAllSets() {
    shows(told("r;" + "c5 0;".repeat(6)), 0, 64, 0);
    shows(told("r;c5 0;"), 0, 2, 0);
  }

  static void promise26_withoutCandlesTheEmptySet() { shows(told("r;"), 0, 1, 0); }

  static void promise26_setsOfWhatBurnedTogether() {
    LitWick x = litAndBegun("r;r;c2 0;c2 0;c4 1;");
    x.minutes(4);
    shows(x, 0, 2, 3);
    shows(x, 1, 2, 3);
  }

  static void promise26_ofSeveralTheLeast() {
    LitWick x = litAndBegun("r;r;c1 0;c1 0;c1 1;");
    x.minutes(1);
    shows(x, 0, 3, 3);
    shows(x, 1, 3, 1);
  }

  static void promise26_theSixthCandleAlone() {
    LitWick x = told("r;r;" + "c5 0;".repeat(5) + "c5 1;");
    x.lights(5, 1);
    x.minutes(2);
    shows(x, 1, 32, 32);
    shows(x, 0, 32, 0);
  }

  static void promise26_candlesCountWhereverTheyAreNow() {
    LitWick x = litAndBegun("r;r;d0 1;c9 0;");
    x.opens(0, 1);
    x.minutes(2);
    x.carries(0, 1);
    shows(x, 0, 1, 1);
    shows(x, 1, 1, 0);
  }

  static void promise26_noSetIs0AndNone() {
    LitWick x = litAndBegun("r;r;d0 1;c9 0;");
    x.opens(0, 1);
    x.minutes(2);
    x.carries(0, 1);
    x.minutes(1);
    shows(x, 0, 0, NONE);
    shows(x, 1, 0, NONE);
  }

  static void promise26_noSuchRoomIsBad() {
    refused(Sentences::busy, x -> x.shown(-1, 0), BAD);
    refused(Sentences::busy, x -> x.shown(3, 0), BAD);
    due(told(FULLEST).shown(5, 0), BAD);
  }

  static void promise26_theFifthRoomIsNumber4() { due(told(FULLEST).shown(4, 0), 64); }

  static void promise26_noSuchWhatIsBad() {
    refused(Sentences::busy, x -> x.shown(0, -1), BAD);
    refused(Sentences::busy, x -> x.shown(0, 2), BAD);
  }

  static void promise26_numbersOutsideAreBad() {
    outside(0, 2, (x, n) -> x.shown(n, 0), BAD);
    outside(0, 1, (x, n) -> x.shown(0, n), BAD);
  }

  static void promise26_changesNothing() {
    changesNothing(Sentences::busy, x -> x.shown(0, 0));
    changesNothing(Sentences::busy, x -> x.shown(0, 1));
  }

  // ---- promise 27: odds

  /** A lit act at an open window, that needs so many minutes; the wind as told. */
  private static LitWick windy(int needs, String wind) {
    LitWick x = told("r;d0 0;c60 0;a" + needs + " 1 0 9;" + wind);
    x.lights(0, 1);
    x.opens(0, 1);
    return x;
  }

  private static void odds(LitWick x, int by, int n, int upper, int lower) {
    due("upper of " + by + " in " + n, x.odds(0, by, n, 0), upper);
    due("lower of " + by + " in " + n, x.odds(0, by, n, 1), lower);
  }

  static void promise27_inNoMinutesItIsAsTold() {
    odds(windy(3, "w0;"), 10, 0, 1, 1);
    odds(windy(3, "w1;"), 0, 0, 0, 1);
  }

  static void promise27_inSixMinutes() { odds(windy(6, "w0;"), 1, 6, 531441, 1000000); }

  static void promise27_minutesBelow0IsBad() { refused(Sentences::busy, x -> x.odds(2, 5, -1, 0), BAD); }

  static void promise27_minutes7IsBad() { refused(Sentences::busy, x -> x.odds(2, 5, 7, 0), BAD); }

  static void promise27_by0ItNeverBlows() { odds(windy(6, "w1;"), 0, 6, 1, 1); }

  static void promise27_by10ItAlwaysBlows() {
    odds(windy(6, "w0;"), 10, 6, 0, 1);
    odds(windy(1, "w0;"), 10, 1, 0, 1);
  }

  static void promise27_by9() { odds(windy(6, "w0;"), 9, 6, 1, 1000000); }

  static void promise27_xBelow0IsBad() { refused(Sentences::busy, x -> x.odds(2, -1, 1, 0), BAD); }

  static void promise27_x11IsBad() { refused(Sentences::busy, x -> x.odds(2, 11, 1, 0), BAD); }

  static void promise27_inLeastTerms() {
    odds(windy(6, "w0;"), 5, 6, 1, 64);
    odds(windy(6, "w0;"), 2, 6, 4096, 15625);
    odds(windy(1, "w0;"), 4, 1, 3, 5);
    odds(windy(1, "w0;"), 3, 1, 7, 10);
    odds(windy(2, "w0;"), 8, 2, 1, 25);
  }

  static void promise27_neverIs0In1AndSurelyIs1In1() {
    LitWick dark = told("r;a1 1 0 9;");
    odds(dark, 5, 6, 0, 1);
    LitWick shut = litAndBegun("r;d0 0;c60 0;a1 1 0 9;");
    odds(shut, 5, 6, 1, 1);
  }

  static void promise27_eachOfTheMinutesByItself() {
    odds(windy(2, "w0;"), 3, 1, 7, 10);
    odds(windy(2, "w0;"), 3, 2, 49, 100);
  }

  static void promise27_minutesBehindItsEndDoNotMatter() { odds(windy(2, "w0;"), 3, 6, 49, 100); }

  static void promise27_inPlaceOfWhatIsTold() { odds(windy(2, "w1 1 0 0 0 0 0 0;"), 3, 2, 49, 100); }

  static void promise27_laterAsTold() {
    odds(windy(3, "w0 0 1;"), 3, 2, 0, 1);
    odds(windy(7, "w1;"), 0, 6, 0, 1);
    odds(windy(7, "w1 1 1 1 1 1 0;"), 0, 6, 1, 1);
    LitWick x = windy(3, "w0 0 0 1;");
    x.minutes(1);
    odds(x, 3, 1, 0, 1);
    odds(x, 3, 2, 0, 1);
    odds(x, 3, 3, 343, 1000);
  }

  static void promise27_whatIsShieldedIsSure() {
    LitWick x = windy(6, "w1;");
    x.shields(0, 1);
    odds(x, 9, 6, 1, 1);
  }

  static void promise27_aCandleBurnsMeanwhile() {
    odds(litAndBegun("r;c3 0;a4 1 0 9;"), 0, 6, 0, 1);
    odds(litAndBegun("r;c4 0;a4 1 0 9;"), 0, 6, 1, 1);
  }

  static void promise27_aBegunOneKeepsTheMinutesItHas() {
    LitWick x = windy(3, "w0;");
    x.begins(0);
    x.minutes(2);
    odds(x, 3, 6, 7, 10);
  }

  static void promise27_asIfBegunNow() {
    LitWick x = windy(3, "w0;");
    x.minutes(2);
    odds(x, 3, 6, 343, 1000);
    due(x.act(0, 4), 0);
  }

  static void promise27_withWhatItRestsOn() {
    LitWick x = told("r;r;d0 0;c60 0;c60 1;a2 1 0 9;a3 1 1 0;");
    x.lights(0, 1);
    x.lights(1, 1);
    x.opens(0, 1);
    due(x.odds(1, 3, 6, 0), 0);
    x.begins(0);
    due(x.odds(1, 3, 6, 0), 49);
    due(x.odds(1, 3, 6, 1), 100);
  }

  static void promise27_oneThatNeeds20() {
    odds(windy(20, "w0;"), 5, 6, 1, 64);
    odds(litAndBegun("r;c19 0;a20 1 0 9;"), 5, 6, 0, 1);
  }

  static void promise27_goesOnPastMinute999() {
    LitWick x = told("r;d0 0;c60 0;a3 1 0 9;");
    pass(x, 999);
    x.lights(0, 1);
    x.opens(0, 1);
    odds(x, 3, 2, 49, 100);
  }

  static void promise27_aWholeOneIsState() {
    refused(Sentences::busy, x -> x.odds(0, 5, 1, 0), STATE);
    refused(Sentences::busy, x -> x.odds(0, 5, 1, 1), STATE);
  }

  static void promise27_aVoidOneIsState() {
    refused(Sentences::busy, x -> x.odds(1, 5, 1, 0), STATE);
    refused(Sentences::busy, x -> x.odds(1, 5, 1, 1), STATE);
  }

  static void promise27_noSuchActIsBad() {
    refused(Sentences::busy, x -> x.odds(-1, 5, 1, 0), BAD);
    refused(Sentences::busy, x -> x.odds(4, 5, 1, 0), BAD);
    due(told(FULLEST).odds(6, 5, 1, 0), BAD);
  }

  static void promise27_noSuchWhatIsBad() {
    refused(Sentences::busy, x -> x.odds(2, 5, 1, -1), BAD);
    refused(Sentences::busy, x -> x.odds(2, 5, 1, 2), BAD);
  }

  static void promise27_numbersOutsideAreBad() {
    outside(0, 3, (x, n) -> x.odds(n, 5, 1, 0), BAD);
    outside(0, 10, (x, n) -> x.odds(2, n, 1, 0), BAD);
    outside(0, 6, (x, n) -> x.odds(2, 5, n, 0), BAD);
    outside(0, 1, (x, n) -> x.odds(2, 5, 1, n), BAD);
  }

  static void promise27_badGoesAheadOfState() {
    refused(Sentences::busy, x -> x.odds(0, 11, 1, 0), BAD);
    refused(Sentences::busy, x -> x.odds(0, 5, 7, 0), BAD);
    refused(Sentences::busy, x -> x.odds(1, 5, 1, 2), BAD);
  }

  static void promise27_changesNothing() {
    changesNothing(Sentences::busy, x -> x.odds(2, 5, 6, 0));
    changesNothing(Sentences::busy, x -> x.odds(3, 5, 6, 1));
  }
}
