/** Promises 9 to 16, sentence by sentence: what is done, the minutes, and what is undone. */
public final class DeedsTest extends Sentences {
  public static void main(String[] args) { run(DeedsTest.class); }

  // ---- promise 9: lights

  static void promise9_answersHowManyAreLit() {
    LitWick x = told(FULLEST);
    for (int c = 0; c < 6; c++) due("candle " + c, x.lights(c, 1), c + 1);
    for (int c = 0; c < 6; c++) due("candle " + c, x.lights(c, 0), 5 - c);
  }

  static void promise9_lightsThatOneAlone() {
    LitWick x = told("r;c5 0;c5 0;c5 0;");
    x.lights(1, 1);
    due(x.now(2), 2);
  }

  static void promise9_blowsOutThatOneAlone() {
    LitWick x = told("r;c5 0;c5 0;c5 0;");
    for (int c = 0; c < 3; c++) x.lights(c, 1);
    x.lights(1, 0);
    due(x.now(2), 5);
  }

  static void promise9_oneWith1LeftMayBeLit() {
    LitWick x = told("r;c2 0;");
    x.lights(0, 1);
    x.minutes(1);
    x.lights(0, 0);
    due(x.lights(0, 1), 1);
  }

  static void promise9_oneWithNothingLeftIsState() { refused(Sentences::busy, x -> x.lights(1, 1), STATE); }

  static void promise9_lightingALitOneIsState() { refused(Sentences::busy, x -> x.lights(0, 1), STATE); }

  static void promise9_blowingOutOneThatIsNotLitIsState() {
    refused(Sentences::busy, x -> x.lights(2, 0), STATE);
    refused(Sentences::busy, x -> x.lights(1, 0), STATE);
  }

  static void promise9_noSuchCandleIsBad() {
    refused(Sentences::busy, x -> x.lights(-1, 1), BAD);
    refused(Sentences::busy, x -> x.lights(3, 1), BAD);
    due(told(FULLEST).lights(6, 1), BAD);
  }

  static void promise9_isOf2OrBelow0IsBad() {
    refused(Sentences::busy, x -> x.lights(2, 2), BAD);
    refused(Sentences::busy, x -> x.lights(2, -1), BAD);
  }

  static void promise9_numbersOutsideAreBad() {
    outside(0, 2, (x, n) -> x.lights(n, 1), BAD);
    outside(0, 1, (x, n) -> x.lights(2, n), BAD);
  }

  static void promise9_badGoesAheadOfState() {
    refused(Sentences::busy, x -> x.lights(1, 2), BAD);
    refused(Sentences::busy, x -> x.lights(1, -1), BAD);
  }

  static void promise9_leavesWhatIsLeftRoomAndShield() {
    LitWick x = made(Sentences::busy);
    x.lights(2, 1);
    due(x.candle(2, 1), 9);
    due(x.candle(2, 2), 2);
    due(x.candle(2, 4), 1);
    due(x.lights(2, 0), 1);
    due(x.candle(2, 4), 1);
  }

  static void promise9_blownOutAndLitAgainItBurnsOn() {
    LitWick x = told("r;c5 0;");
    x.lights(0, 1);
    x.minutes(2);
    x.lights(0, 0);
    x.minutes(4);
    x.lights(0, 1);
    due(x.candle(0, 1), 3);
  }

  // ---- promise 10: carries

  static void promise10_answersTheRoomWhereItWas() {
    LitWick x = told("r;r;r;d0 1;d1 2;c5 0;");
    x.opens(0, 1);
    x.opens(1, 1);
    due(x.carries(0, 1), 0);
    due(x.carries(0, 2), 1);
    due(x.candle(0, 2), 2);
  }

  static void promise10_eitherWayThroughADoor() {
    LitWick x = told("r;r;d1 0;c5 0;");
    x.opens(0, 1);
    due(x.carries(0, 1), 0);
    due(x.carries(0, 0), 1);
  }

  static void promise10_thatOneAlone() {
    LitWick x = told("r;r;d0 1;" + "c5 0;".repeat(6));
    x.opens(0, 1);
    x.carries(5, 1);
    x.carries(2, 1);
    due(x.room(0, 1), 27);
    due(x.room(1, 1), 36);
  }

  static void promise10_toTheFifthRoom() {
    LitWick x = told(FULLEST);
    x.opens(3, 1);
    due(x.carries(3, 4), 3);
  }

  static void promise10_byOneOfSeveralDoorsThatIsOpen() {
    LitWick x = told("r;r;d0 1;d0 1;c5 0;");
    x.opens(1, 1);
    due(x.carries(0, 1), 0);
  }

  static void promise10_aLitOneStaysSo() {
    LitWick x = told("r;r;d0 1;c5 0;c5 0;");
    x.lights(0, 1);
    x.opens(0, 1);
    x.carries(0, 1);
    x.carries(1, 1);
    due(x.now(2), 1);
  }

  static void promise10_leftAndShieldStay() {
    LitWick x = told("r;r;d0 1;c5 0;c5 0;");
    x.opens(0, 1);
    x.lights(0, 1);
    x.shields(0, 1);
    x.minutes(2);
    x.carries(0, 1);
    due(x.candle(0, 1), 3);
    due(x.candle(0, 4), 1);
    due(x.candle(1, 2), 0);
  }

  static void promise10_oneWithNothingLeftMayBeCarried() { due(made(Sentences::busy).carries(1, 0), 1); }

  static void promise10_toWhereItIsIsState() { refused(Sentences::busy, x -> x.carries(0, 0), STATE); }

  static void promise10_toWhereItIsByAnOpenWindowIsState() {
    refused(x -> { busy(x); x.opens(2, 1); }, x -> x.carries(2, 2), STATE);
  }

  static void promise10_byAShutDoorIsState() {
    refused(x -> { busy(x); x.opens(0, 0); }, x -> x.carries(0, 1), STATE);
  }

  static void promise10_throughTwoDoorsAtOnceIsState() { refused(Sentences::busy, x -> x.carries(0, 2), STATE); }

  static void promise10_whereNoDoorIsIsState() { refused(x -> tell(x, "r;r;d0 0;d1 1;c5 0;"), x -> x.carries(0, 1), STATE); }

  static void promise10_byOpenWindowsIsState() {
    refused(x -> { tell(x, "r;r;d0 0;d1 1;c5 0;"); x.opens(0, 1); x.opens(1, 1); }, x -> x.carries(0, 1), STATE);
  }

  static void promise10_noSuchCandleIsBad() {
    refused(Sentences::busy, x -> x.carries(-1, 1), BAD);
    refused(Sentences::busy, x -> x.carries(3, 1), BAD);
    due(told(FULLEST).carries(6, 0), BAD);
  }

  static void promise10_noSuchRoomIsBad() {
    refused(Sentences::busy, x -> x.carries(0, -1), BAD);
    refused(Sentences::busy, x -> x.carries(0, 3), BAD);
    due(told(FULLEST).carries(0, 5), BAD);
  }

  static void promise10_numbersOutsideAreBad() {
    outside(0, 2, (x, n) -> x.carries(n, 1), BAD);
    outside(0, 2, (x, n) -> x.carries(0, n), BAD);
  }

  static void promise10_badGoesAheadOfState() {
    refused(x -> { busy(x); x.opens(0, 0); }, x -> x.carries(0, 3), BAD);
    refused(x -> { busy(x); x.opens(0, 0); }, x -> x.carries(3, 0), BAD);
  }

  // ---- promise 11: shields

  static void promise11_answersHowManyAre() {
    LitWick x = told(FULLEST);
    for (int c = 0; c < 6; c++) due("candle " + c, x.shields(c, 1), c + 1);
    for (int c = 0; c < 6; c++) due("candle " + c, x.shields(c, 0), 5 - c);
  }

  static void promise11_thatOneAlone() {
    LitWick x = told("r;c5 0;c5 0;c5 0;");
    x.shields(1, 1);
    for (int c = 0; c < 3; c++) due("candle " + c, x.candle(c, 4), c == 1 ? 1 : 0);
    due(x.now(2), 0);
  }

  static void promise11_oneWithNothingLeftMayBe() { due(made(Sentences::busy).shields(1, 1), 2); }

  static void promise11_shieldingAShieldedOneIsState() { refused(Sentences::busy, x -> x.shields(2, 1), STATE); }

  static void promise11_noMoreOfOneThatIsNotIsState() { refused(Sentences::busy, x -> x.shields(0, 0), STATE); }

  static void promise11_noSuchCandleIsBad() {
    refused(Sentences::busy, x -> x.shields(-1, 1), BAD);
    refused(Sentences::busy, x -> x.shields(3, 1), BAD);
    due(told(FULLEST).shields(6, 1), BAD);
  }

  static void promise11_isOf2OrBelow0IsBad() {
    refused(Sentences::busy, x -> x.shields(0, 2), BAD);
    refused(Sentences::busy, x -> x.shields(0, -1), BAD);
    refused(Sentences::busy, x -> x.shields(2, 2), BAD);
  }

  static void promise11_numbersOutsideAreBad() {
    outside(0, 2, (x, n) -> x.shields(n, 1), BAD);
    outside(0, 1, (x, n) -> x.shields(0, n), BAD);
  }

  // ---- promise 12: opens

  static void promise12_answersHowManyAreOpen() {
    LitWick x = told(FULLEST);
    for (int d = 0; d < 5; d++) due("door " + d, x.opens(d, 1), d + 1);
    for (int d = 0; d < 5; d++) due("door " + d, x.opens(d, 0), 4 - d);
  }

  static void promise12_thatOneAlone() {
    LitWick x = told("r;r;d0 1;d0 1;d0 1;");
    x.opens(1, 1);
    due(x.now(3), 2);
  }

  static void promise12_openingAnOpenOneIsState() { refused(Sentences::busy, x -> x.opens(0, 1), STATE); }

  static void promise12_shuttingAShutOneIsState() { refused(Sentences::busy, x -> x.opens(2, 0), STATE); }

  static void promise12_noSuchDoorIsBad() {
    refused(Sentences::busy, x -> x.opens(-1, 1), BAD);
    refused(Sentences::busy, x -> x.opens(3, 1), BAD);
    due(told(FULLEST).opens(5, 1), BAD);
  }

  static void promise12_isOf2OrBelow0IsBad() {
    refused(Sentences::busy, x -> x.opens(2, 2), BAD);
    refused(Sentences::busy, x -> x.opens(2, -1), BAD);
    refused(Sentences::busy, x -> x.opens(0, 2), BAD);
  }

  static void promise12_numbersOutsideAreBad() {
    outside(0, 2, (x, n) -> x.opens(n, 1), BAD);
    outside(0, 1, (x, n) -> x.opens(2, n), BAD);
  }

  // ---- promise 13: begins

  static void promise13_answersHowManyAreBegun() {
    LitWick x = told(FULLEST);
    for (int a = 0; a < 6; a++) due("act " + a, x.begins(a), a + 1);
  }

  static void promise13_wholeAndVoidOnesDoNotCount() { due(made(Sentences::busy).begins(3), 2); }

  static void promise13_thatOneAlone() {
    LitWick x = told("r;a1 1 0 9;a1 1 0 9;a1 1 0 9;");
    x.begins(1);
    for (int a = 0; a < 3; a++) due("act " + a, x.act(a, 4), a == 1 ? 1 : 0);
  }

  static void promise13_inTheDarkToo() { due(told("r;a1 1 0 9;").begins(0), 1); }

  static void promise13_aheadOfWhatItRestsOnToo() { due(told("r;a1 1 0 9;a1 1 0 0;").begins(1), 1); }

  static void promise13_aBegunOneIsState() { refused(Sentences::busy, x -> x.begins(2), STATE); }

  static void promise13_aWholeOneIsState() { refused(Sentences::busy, x -> x.begins(0), STATE); }

  static void promise13_aVoidOneIsState() { refused(Sentences::busy, x -> x.begins(1), STATE); }

  static void promise13_noSuchActIsBad() {
    refused(Sentences::busy, x -> x.begins(-1), BAD);
    refused(Sentences::busy, x -> x.begins(4), BAD);
    due(told(FULLEST).begins(6), BAD);
  }

  static void promise13_numbersOutsideAreBad() { outside(0, 3, (x, n) -> x.begins(n), BAD); }

  // ---- promise 14: minutes, how many

  static void promise14_oneMinute() {
    LitWick x = new LitWick();
    due(x.minutes(1), 0);
    due(x.now(0), 1);
  }

  static void promise14_sixtyMinutes() {
    LitWick x = new LitWick();
    due(x.minutes(60), 0);
    due(x.now(0), 60);
  }

  static void promise14_noMinutesIsBad() { refused(Sentences::busy, x -> x.minutes(0), BAD); }

  static void promise14_minutesBelow0IsBad() { refused(Sentences::busy, x -> x.minutes(-1), BAD); }

  static void promise14_minutes61IsBad() { refused(Sentences::busy, x -> x.minutes(61), BAD); }

  static void promise14_numbersOutsideAreBad() { outside(1, 60, (x, n) -> x.minutes(n), BAD); }

  private static Deed atMinute(int minute) { return x -> { busy(x); pass(x, minute - 2); }; }

  static void promise14_minute999MayCome() {
    LitWick x = made(atMinute(998));
    due(x.minutes(1), 0);
    due(x.now(0), 999);
  }

  static void promise14_sixtyMinutesTo999() {
    LitWick x = made(atMinute(939));
    due(x.minutes(60), 0);
    due(x.now(0), 999);
  }

  static void promise14_minute1000IsState() {
    refused(atMinute(999), x -> x.minutes(1), STATE);
    refused(atMinute(940), x -> x.minutes(60), STATE);
    refused(atMinute(999), x -> x.minutes(60), STATE);
  }

  static void promise14_badGoesAheadOfState() {
    refused(atMinute(999), x -> x.minutes(0), BAD);
    refused(atMinute(999), x -> x.minutes(61), BAD);
  }

  static void promise14_otherThingsMayBeDoneInMinute999() {
    LitWick x = told("r;c5 0;");
    pass(x, 999);
    due(x.lights(0, 1), 1);
  }

  static void promise14_eachIsUndoneByItself() {
    LitWick x = told("r;");
    x.minutes(3);
    due(x.count(6), 3);
    due(x.undo(), 2);
    due(x.now(0), 2);
  }

  static void promise14_severalAreAsThoseOneByOne() {
    alike(x -> { busy(x); x.minutes(4); }, x -> { busy(x); times(4, () -> x.minutes(1)); });
  }

  static void promise14_answersHowManyBecameVoidInAllOfThem() {
    LitWick x = told("r;r;c1 0;c2 1;a9 1 0 9;a9 1 1 9;a1 1 1 9;");
    x.lights(0, 1);
    x.lights(1, 1);
    for (int a = 0; a < 3; a++) x.begins(a);
    due(x.minutes(3), 2);
  }

  static void promise14_sixMayBecomeVoidAtOnce() {
    LitWick x = told(FULLEST);
    for (int a = 0; a < 6; a++) x.begins(a);
    due(x.minutes(1), 6);
    due(x.now(5), 63);
  }

  static void promise14_whatWasVoidDoesNotCountAgain() {
    LitWick x = told("r;a1 1 0 9;");
    x.begins(0);
    due(x.minutes(1), 1);
    due(x.minutes(1), 0);
  }

  // ---- promise 14: a minute's wind

  static void promise14_windBlowsOutWhatIsAtAnOpenDoor() {
    for (String door : new String[] {"d3 1;", "d1 3;"}) {
      LitWick x = litAndBegun("r;r;r;r;" + door + "c5 0;c5 1;c5 2;c5 3;w1;");
      x.opens(0, 1);
      x.minutes(1);
      due(door, x.now(2), 5);
    }
  }

  static void promise14_windBlowsOutAllSixAtOnce() {
    LitWick x = litAndBegun("r;r;d0 1;c5 0;c5 1;c5 0;c5 1;c5 0;c5 1;w1;");
    x.opens(0, 1);
    x.minutes(1);
    due(x.now(2), 0);
  }

  static void promise14_windBlowsOutWhatIsAtAnOpenWindow() {
    LitWick x = litAndBegun("r;r;d0 0;c5 0;c5 1;w1;");
    x.opens(0, 1);
    x.minutes(1);
    due(x.now(2), 2);
  }

  static void promise14_windByAShutDoorBlowsOutNothing() {
    LitWick x = litAndBegun("r;r;d0 1;c5 0;c5 1;w1;");
    x.minutes(1);
    due(x.now(2), 3);
  }

  static void promise14_windBlowsOutNoShieldedOne() {
    LitWick x = litAndBegun("r;d0 0;c5 0;c5 0;w1;");
    x.opens(0, 1);
    x.shields(1, 1);
    x.minutes(1);
    due(x.now(2), 2);
    x.shields(1, 0);
    x.minutes(1);
    due(x.now(2), 0);
  }

  static void promise14_withoutWindAnOpenDoorBlowsOutNothing() {
    LitWick x = litAndBegun("r;d0 0;c5 0;w0;");
    x.opens(0, 1);
    x.minutes(1);
    due(x.now(2), 1);
  }

  static void promise14_whereNoWindIsToldItNeverBlows() {
    LitWick x = litAndBegun("r;d0 0;c60 0;");
    x.opens(0, 1);
    x.minutes(59);
    due(x.now(2), 1);
  }

  static void promise14_windIsTheBitOfTheMinuteThatPasses() {
    LitWick x = litAndBegun("r;d0 0;c60 0;w0 0 1;");
    x.opens(0, 1);
    x.minutes(2);
    due(x.now(2), 1);
    x.minutes(1);
    due(x.now(2), 0);
  }

  static void promise14_windComesRound() {
    for (int bits = 1; bits <= 8; bits++) {
      LitWick x = litAndBegun("r;d0 0;c60 0;w1" + " 0".repeat(bits - 1) + ";");
      x.minutes(1);
      x.opens(0, 1);
      if (bits > 1) x.minutes(bits - 1);
      due(bits + " bits, lit", x.now(2), 1);
      x.minutes(1);
      due(bits + " bits, blown out", x.now(2), 0);
    }
  }

  static void promise14_windComesAheadOfActs() {
    LitWick x = litAndBegun("r;d0 0;c5 0;a1 1 0 9;w1;");
    x.opens(0, 1);
    due(x.minutes(1), 1);
    due(x.act(0, 4), 3);
    due(x.act(0, 5), 0);
  }

  static void promise14_windComesAheadOfBurning() {
    LitWick x = litAndBegun("r;d0 0;c5 0;w1;");
    x.opens(0, 1);
    x.minutes(1);
    due(x.candle(0, 1), 5);
    due(x.room(0, 0), 0);
  }

  static void promise14_windLeavesShieldsAndDoors() {
    LitWick x = litAndBegun("r;d0 0;c5 0;w1;");
    x.opens(0, 1);
    x.shields(0, 1);
    x.minutes(1);
    due(x.candle(0, 4), 1);
    due(x.now(3), 1);
  }

  // ---- promise 14: a minute's acts

  static void promise14_anActWithALitCandleInItsRoomHasAMinuteMore() {
    LitWick x = litAndBegun("r;c5 0;c5 0;a5 1 0 9;");
    x.minutes(1);
    due(x.act(0, 5), 1);
    due(x.act(0, 4), 1);
  }

  static void promise14_anActWithoutOneIsVoid() {
    LitWick x = told("r;r;d0 1;c5 0;c5 1;a5 1 1 9;");
    x.lights(0, 1);
    x.begins(0);
    due(x.minutes(1), 1);
    due(x.act(0, 4), 3);
    due(x.act(0, 5), 0);
  }

  static void promise14_aVoidOneStaysSoThoughLightComes() {
    LitWick x = told("r;c9 0;a2 1 0 9;");
    x.begins(0);
    x.minutes(1);
    x.lights(0, 1);
    x.minutes(5);
    due(x.act(0, 4), 3);
    due(x.act(0, 5), 0);
  }

  static void promise14_aWholeOneStaysSoThoughLightGoes() {
    LitWick x = litAndBegun("r;c9 0;a2 1 0 9;");
    x.minutes(2);
    x.lights(0, 0);
    due(x.minutes(5), 0);
    due(x.act(0, 4), 2);
  }

  static void promise14_oneThatIsNotBegunStaysSo() {
    LitWick x = told("r;c9 0;a2 1 0 9;a2 1 0 9;");
    x.minutes(3);
    x.lights(0, 1);
    x.minutes(3);
    due(x.act(0, 4), 0);
    due(x.act(0, 5), 0);
  }

  static void promise14_oneThatNeeds1IsWholeInOneMinute() {
    LitWick x = litAndBegun("r;c9 0;a1 1 0 9;");
    due(x.minutes(1), 0);
    due(x.act(0, 4), 2);
  }

  static void promise14_oneThatNeeds20IsWholeIn20AndNotIn19() {
    LitWick x = litAndBegun("r;c20 0;a20 1 0 9;");
    x.minutes(19);
    due(x.act(0, 4), 1);
    x.minutes(1);
    due(x.act(0, 4), 2);
  }

  static void promise14_itsMinutesMayBeLitByOneCandleBehindAnother() {
    LitWick x = told("r;c2 0;c3 0;a4 1 0 9;");
    x.lights(0, 1);
    x.begins(0);
    x.minutes(2);
    x.lights(1, 1);
    due(x.minutes(2), 0);
    due(x.act(0, 4), 2);
  }

  static void promise14_byACandleThatIsCarriedIn() {
    LitWick x = told("r;r;d0 1;c9 1;a2 1 0 9;");
    x.lights(0, 1);
    x.opens(0, 1);
    x.carries(0, 0);
    x.begins(0);
    due(x.minutes(2), 0);
    due(x.act(0, 4), 2);
  }

  static void promise14_voidOnceItsCandleIsCarriedOut() {
    LitWick x = litAndBegun("r;r;d0 1;c9 0;a3 1 0 9;");
    x.minutes(1);
    x.opens(0, 1);
    x.carries(0, 1);
    due(x.minutes(1), 1);
  }

  static void promise14_whatRestsOnAWholeOneIsWhole() {
    LitWick x = litAndBegun("r;c9 0;a1 1 0 9;a2 1 0 0;");
    due(x.minutes(2), 0);
    due(x.now(4), 3);
  }

  static void promise14_whatRestsOnOneThatIsWholeInTheSameMinuteIsWhole() {
    LitWick x = litAndBegun("r;c9 0;a2 1 0 9;a2 1 0 0;a2 1 0 1;");
    due(x.minutes(2), 0);
    due(x.now(4), 7);
  }

  static void promise14_whatRestsOnOneThatIsNotWholeYetIsVoid() {
    LitWick x = litAndBegun("r;c9 0;a3 1 0 9;a2 1 0 0;");
    due(x.minutes(2), 1);
    due(x.act(1, 4), 3);
    due(x.act(1, 5), 2);
  }

  static void promise14_whatRestsOnOneThatIsNotBegunIsVoid() {
    LitWick x = told("r;c9 0;a1 1 0 9;a1 1 0 0;");
    x.lights(0, 1);
    x.begins(1);
    due(x.minutes(1), 1);
    due(x.now(5), 2);
  }

  static void promise14_whatRestsOnAVoidOneIsVoidOnlyOnceItHasAll() {
    LitWick x = litAndBegun("r;r;c9 0;a1 1 1 9;a2 1 0 0;");
    due(x.minutes(1), 1);
    due(x.act(1, 4), 1);
    due(x.minutes(1), 1);
    due(x.act(1, 4), 3);
    due(x.act(1, 5), 2);
  }

  static void promise14_whatRestsOnAnotherAlsoNeedsLight() {
    LitWick x = litAndBegun("r;r;c9 0;a1 1 0 9;a1 1 1 0;");
    due(x.minutes(1), 1);
    due(x.now(4), 1);
    due(x.now(5), 2);
  }

  // ---- promise 14: a minute's burning

  static void promise14_eachLitOneHasAMinuteLess() {
    LitWick x = told("r;r;c60 0;c5 1;c5 1;");
    x.lights(0, 1);
    x.lights(1, 1);
    x.minutes(1);
    due(x.candle(0, 1), 59);
    due(x.candle(1, 1), 4);
    due(x.candle(2, 1), 5);
  }

  static void promise14_aShieldedOneBurnsToo() {
    LitWick x = litAndBegun("r;c5 0;");
    x.shields(0, 1);
    x.minutes(2);
    due(x.candle(0, 1), 3);
    due(x.room(0, 0), 2);
  }

  static void promise14_at0ItIsNotLit() {
    LitWick x = litAndBegun("r;c2 0;");
    x.minutes(1);
    due(x.now(2), 1);
    x.minutes(1);
    due(x.now(2), 0);
    due(x.candle(0, 1), 0);
    x.minutes(1);
    due(x.candle(0, 1), 0);
    due(x.room(0, 0), 2);
  }

  static void promise14_itsLastMinuteStillLightsAnAct() {
    LitWick x = litAndBegun("r;c2 0;a2 1 0 9;a3 1 0 9;");
    due(x.minutes(2), 0);
    due(x.now(4), 1);
    due(x.minutes(1), 1);
    due(x.act(1, 5), 2);
  }

  static void promise14_waxIsAMinuteForEachThatBurned() {
    LitWick x = litAndBegun("r;r;c1 0;c5 0;c5 1;");
    x.minutes(1);
    due(x.room(0, 0), 2);
    due(x.room(1, 0), 1);
    x.minutes(1);
    due(x.room(0, 0), 3);
  }

  // ---- promise 15: undo

  /** In minute 1, with wind: candle 0 is lit at an open door, 1 shielded, 2 burned down; acts 0 and 2 are begun; eight may be undone. */
  private static void few(LitWick x) {
    tell(x, "r;r;d0 1;d1 1;c5 0;c5 1;c1 1;a2 1 0 9;a1 1 0 9;a3 2 1 9;w0 1;");
    x.lights(0, 1);
    x.lights(2, 1);
    x.begins(0);
    x.begins(2);
    x.minutes(1);
    x.opens(0, 1);
    x.shields(1, 1);
    x.opens(1, 1);
  }

  private static void undoes(Ask deed) {
    LitWick x = made(DeedsTest::few);
    String ahead = look(x);
    due("it is done", deed.of(x) >= 0 ? 1 : 0, 1);
    due("it shows", look(x).equals(ahead) ? 0 : 1, 1);
    due("as many as ahead of it", x.undo(), 8);
    due("all is as ahead of it", look(x).equals(ahead) ? 1 : 0, 1);
  }

  static void promise15_undoesWhatWasLit() { undoes(x -> x.lights(1, 1)); }

  static void promise15_undoesWhatWasBlownOut() { undoes(x -> x.lights(0, 0)); }

  static void promise15_undoesWhatWasCarried() { undoes(x -> x.carries(0, 1)); }

  static void promise15_undoesAShield() { undoes(x -> x.shields(0, 1)); }

  static void promise15_undoesAShieldTakenOff() { undoes(x -> x.shields(1, 0)); }

  static void promise15_undoesADoorOpened() {
    LitWick x = told("r;d0 0;");
    x.opens(0, 1);
    due(x.undo(), 0);
    due(x.now(3), 0);
  }

  static void promise15_undoesADoorShut() { undoes(x -> x.opens(0, 0)); }

  static void promise15_undoesAnActBegun() { undoes(x -> x.begins(1)); }

  static void promise15_undoesAMinuteWithAllThatCameInIt() { undoes(x -> x.minutes(1)); }

  static void promise15_undoesAMinuteInWhichAnActBecameWhole() {
    LitWick x = litAndBegun("r;c1 0;a1 1 0 9;");
    x.minutes(1);
    x.undo();
    due(x.act(0, 4), 1);
    due(x.act(0, 5), 0);
    due(x.candle(0, 1), 1);
    due(x.now(2), 1);
    due(x.room(0, 0), 0);
    due(x.now(0), 0);
  }

  static void promise15_undoesAMinuteInWhichAnActBecameVoid() {
    LitWick x = told("r;a1 1 0 9;");
    x.begins(0);
    x.minutes(1);
    x.undo();
    due(x.act(0, 4), 1);
  }

  static void promise15_undoesAMinuteInWhichWindBlew() {
    LitWick x = litAndBegun("r;d0 0;c5 0;w1;");
    x.opens(0, 1);
    x.minutes(1);
    x.undo();
    due(x.now(2), 1);
  }

  static void promise15_undoesTheLatestFirst() {
    LitWick x = told("r;c5 0;a1 1 0 9;");
    x.lights(0, 1);
    x.begins(0);
    due(x.undo(), 1);
    due(x.act(0, 4), 0);
    due(x.now(2), 1);
    due(x.undo(), 0);
    due(x.now(2), 0);
  }

  static void promise15_withNothingToUndoIsState() {
    refused(x -> tell(x, "r;c5 0;"), x -> x.undo(), STATE);
    refused(x -> { tell(x, "r;c5 0;"); x.lights(0, 1); x.undo(); }, x -> x.undo(), STATE);
  }

  static void promise15_tenAreKnown() {
    LitWick x = told("r;");
    times(10, () -> x.minutes(1));
    for (int more = 9; more >= 0; more--) due("more", x.undo(), more);
    due(x.now(0), 0);
    due(x.undo(), STATE);
  }

  static void promise15_anEleventhLosesTheOldest() {
    LitWick x = told("r;c60 0;");
    x.lights(0, 1);
    x.minutes(10);
    due(x.count(6), 10);
    for (int more = 9; more >= 0; more--) due("more", x.undo(), more);
    due(x.now(0), 0);
    due(x.now(2), 1);
    due(x.undo(), STATE);
  }

  static void promise15_of60MinutesTheLatestTenAreKnown() {
    LitWick x = told("r;");
    x.minutes(60);
    times(10, () -> x.undo());
    due(x.now(0), 50);
    due(x.undo(), STATE);
  }

  static void promise15_behindAnUndoOthersMayBeDoneAndUndone() {
    LitWick x = told("r;c5 0;c5 0;");
    x.minutes(10);
    times(3, () -> x.undo());
    due(x.count(6), 7);
    x.lights(1, 1);
    due(x.count(6), 8);
    due(x.undo(), 7);
    due(x.now(2), 0);
    due(x.now(0), 7);
    due(x.undo(), 6);
    due(x.now(0), 6);
  }

  static void promise15_anUndoIsNotItselfUndone() {
    LitWick x = told("r;c5 0;");
    x.lights(0, 1);
    x.minutes(1);
    x.undo();
    x.undo();
    due(x.now(2), 0);
  }

  static void promise15_whatWasRefusedIsNothingToUndo() {
    LitWick x = told("r;c5 0;d0 0;a1 1 0 9;");
    x.lights(0, 0);
    x.lights(9, 1);
    x.carries(0, 0);
    x.shields(0, 0);
    x.opens(0, 0);
    x.begins(1);
    x.minutes(0);
    due(x.undo(), STATE);
  }

  static void promise15_leavesWhatIsWantedTextTraceAndImages() {
    LitWick x = made(Sentences::busy);
    x.lights(2, 1);
    x.wants(9);
    x.type(';');
    x.mark(0, 0);
    x.keep(1);
    x.undo();
    due(x.count(5), 3);
    due(x.count(7), 4);
    due(x.trace(), 1012);
    x.back(1);
    due(x.now(2), 5);
  }

  // ---- promise 16: now

  static void promise16_theMinute() {
    LitWick x = new LitWick();
    due(x.now(0), 0);
    pass(x, 999);
    due(x.now(0), 999);
  }

  static void promise16_whetherWindBlowsInIt() {
    LitWick x = told("w1 0 0 1 0 0 0 1;");
    int[] bits = {1, 0, 0, 1, 0, 0, 0, 1};
    for (int m = 0; m < 24; m++) {
      due("minute " + m, x.now(1), bits[m % 8]);
      x.minutes(1);
    }
  }

  static void promise16_whetherWindBlowsThoughAllIsShut() { due(told("r;d0 0;w1;").now(1), 1); }

  static void promise16_whatIsLit() {
    LitWick x = told(FULLEST);
    x.lights(0, 1);
    x.lights(5, 1);
    due(x.now(2), 33);
  }

  static void promise16_whichDoorsAreOpen() {
    LitWick x = told(FULLEST);
    x.opens(0, 1);
    x.opens(4, 1);
    due(x.now(3), 17);
  }

  static void promise16_whichActsAreWhole() {
    LitWick x = litAndBegun("r;r;c9 0;a1 3 0 9;a1 3 1 9;a2 3 0 9;a9 3 0 9;a1 3 0 0;a1 3 0 9;");
    x.minutes(2);
    due(x.now(4), 53);
  }

  static void promise16_whichActsAreVoid() {
    LitWick x = litAndBegun("r;r;c9 0;a1 3 1 9;a1 3 0 9;a2 3 0 9;a9 3 0 9;a1 3 0 0;a1 3 1 9;");
    x.minutes(2);
    due(x.now(5), 49);
  }

  static void promise16_worthOfWholeOnes() {
    LitWick x = litAndBegun("r;r;c9 0;a1 9 0 9;a1 7 1 9;a9 5 0 9;a1 4 0 0;");
    x.minutes(1);
    due(x.now(6), 13);
  }

  static void promise16_worthMayBe54() {
    LitWick x = litAndBegun("r;c9 0;" + "a1 9 0 9;".repeat(6));
    x.minutes(1);
    due(x.now(6), 54);
  }

  static void promise16_inAFullHouseWithNothingWholeOrVoid() {
    for (int room = 0; room < 5; room++) {
      LitWick x = litAndBegun("r;r;r;r;r;" + ("c60 " + room + ";").repeat(6) + ("a20 9 " + room + " 9;").repeat(6));
      for (int minute = 1; minute <= 4; minute++) {
        x.minutes(1);
        due("lit in " + minute, x.now(2), 63);
        due("whole in " + minute, x.now(4), 0);
        due("void in " + minute, x.now(5), 0);
        due("worth in " + minute, x.now(6), 0);
      }
    }
  }

  static void promise16_noSuchWhatIsBad() {
    refused(Sentences::busy, x -> x.now(-1), BAD);
    refused(Sentences::busy, x -> x.now(7), BAD);
  }

  static void promise16_numbersOutsideAreBad() { outside(0, 6, (x, n) -> x.now(n), BAD); }

  static void promise16_changesNothing() { for (int what = 0; what <= 6; what++) { int w = what; changesNothing(Sentences::busy, x -> x.now(w)); } }
}
