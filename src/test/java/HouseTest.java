/** Promises 1 to 8, sentence by sentence: the text, and the house that it tells. */
public final class HouseTest extends Sentences {
  public static void main(String[] args) { run(HouseTest.class); }

  private static String pad(String text, int bytes) { return " ".repeat(bytes - text.length()) + text; }

  // ---- promise 1: a new object

  static void promise1_hasNoRooms() { due(new LitWick().count(0), 0); }

  static void promise1_hasNoDoorsCandlesActsOrWind() {
    for (int what = 1; what <= 4; what++) due("count " + what, new LitWick().count(what), 0);
  }

  static void promise1_wantsNothing() { due(new LitWick().count(5), 0); }

  static void promise1_hasNothingToUndo() {
    due(new LitWick().count(6), 0);
    due(new LitWick().undo(), STATE);
  }

  static void promise1_hasAnEmptyText() {
    due(new LitWick().count(7), 0);
    due(new LitWick().clear(), 0);
  }

  static void promise1_isInMinute0() { due(new LitWick().now(0), 0); }

  static void promise1_hasNoWindInAnyMinute() {
    LitWick x = new LitWick();
    for (int m = 0; m < 9; m++) {
      due("minute " + m, x.now(1), 0);
      x.minutes(1);
    }
  }

  static void promise1_hasNothingLitOpenWholeOrVoid() {
    for (int what = 2; what <= 6; what++) due("now " + what, new LitWick().now(what), 0);
  }

  static void promise1_hasNoImages() {
    due(new LitWick().back(0), STATE);
    due(new LitWick().back(1), STATE);
  }

  static void promise1_hasATraceOf0() { due(new LitWick().trace(), 0); }

  static void promise1_hasNoThingToAskOf() {
    due("candle", new LitWick().candle(0, 0), BAD);
    due("door", new LitWick().door(0, 0), BAD);
    due("act", new LitWick().act(0, 0), BAD);
    due("room", new LitWick().room(0, 0), BAD);
    due("comes", new LitWick().comes(0, 0), BAD);
    due("plot", new LitWick().plot(0), BAD);
    due("guard", new LitWick().guard(0), BAD);
    due("falls", new LitWick().falls(0), BAD);
    due("shown", new LitWick().shown(0, 0), BAD);
    due("odds", new LitWick().odds(0, 0, 0, 0), BAD);
    due("mark", new LitWick().mark(0, 0), NO);
  }

  static void promise1_hasNoThingToDoSomethingWith() {
    due("lights", new LitWick().lights(0, 1), BAD);
    due("carries", new LitWick().carries(0, 0), BAD);
    due("shields", new LitWick().shields(0, 1), BAD);
    due("opens", new LitWick().opens(0, 1), BAD);
    due("begins", new LitWick().begins(0), BAD);
  }

  static void promise1_itsMinutesPassAndAreUndone() {
    LitWick x = new LitWick();
    due(x.minutes(2), 0);
    due(x.now(0), 2);
    due(x.undo(), 1);
    due(x.now(0), 1);
  }

  static void promise1_sharesNothingWithAnother() {
    LitWick x = new LitWick();
    LitWick y = made(Sentences::busy);
    due(look(x).equals(look(new LitWick())) ? 1 : 0, 1);
    due(y.count(0), 3);
  }

  static void promise1_constantsAreAsTold() {
    due("BAD", LitWick.BAD, -1);
    due("STATE", LitWick.STATE, -2);
    due("FULL", LitWick.FULL, -3);
    due("NONE", LitWick.NONE, -9);
    due("NO", LitWick.NO, -1000000);
  }

  // ---- promise 2: type

  static void promise2_answersHowManyTheTextHas() {
    LitWick x = new LitWick();
    for (int i = 1; i <= 200; i++) due("byte " + i, x.type('r'), i);
  }

  static void promise2_takesByte0() { due(new LitWick().type(0), 1); }

  static void promise2_takesByte255() { due(new LitWick().type(255), 1); }

  static void promise2_byteBelow0IsBad() {
    refused(Sentences::busy, x -> x.type(-1), BAD);
    due(new LitWick().type(Integer.MIN_VALUE), BAD);
  }

  static void promise2_byteAbove255IsBad() {
    refused(Sentences::busy, x -> x.type(256), BAD);
    due(new LitWick().type(Integer.MAX_VALUE), BAD);
    due(new LitWick().type('r' + 256), BAD);
  }

  static void promise2_numbersOutsideAreBad() { outside(0, 255, (x, n) -> x.type(n), BAD); }

  private static void hasAFullText(LitWick x) { Checks.typed(x, pad("r;", 200)); }

  static void promise2_a201stByteIsFull() { refused(HouseTest::hasAFullText, x -> x.type(' '), FULL); }

  static void promise2_badGoesAheadOfFull() {
    refused(HouseTest::hasAFullText, x -> x.type(-1), BAD);
    refused(HouseTest::hasAFullText, x -> x.type(256), BAD);
  }

  static void promise2_theTextIsReadWithoutWhatWasRefused() {
    LitWick x = made(HouseTest::hasAFullText);
    x.type('?');
    due(x.house(), 1);
  }

  static void promise2_fullIsOverOnceCleared() {
    LitWick x = made(HouseTest::hasAFullText);
    x.clear();
    due(x.type('r'), 1);
  }

  static void promise2_fullIsOverOnceRead() {
    LitWick x = made(HouseTest::hasAFullText);
    x.house();
    due(x.type('r'), 1);
  }

  static void promise2_aByteComesToTheTextsEnd() {
    LitWick x = new LitWick();
    x.type('r');
    due(x.house(), -11);
    due(x.type(';'), 2);
    due(x.house(), 1);
  }

  static void promise2_changesNothingButTheText() {
    alike(x -> { busy(x); x.type('?'); x.clear(); }, x -> { busy(x); x.clear(); });
  }

  // ---- promise 3: clear

  static void promise3_ofAnEmptyTextAnswers0() { due(new LitWick().clear(), 0); }

  static void promise3_ofOneByteAnswers1() { due(made(x -> x.type(0)).clear(), 1); }

  static void promise3_ofAFullTextAnswers200() { due(made(HouseTest::hasAFullText).clear(), 200); }

  static void promise3_theTextIsEmptyThen() {
    LitWick x = made(HouseTest::hasAFullText);
    x.clear();
    due(x.count(7), 0);
    due(x.clear(), 0);
  }

  static void promise3_whatWasClearedIsNotRead() {
    LitWick x = made(y -> Checks.typed(y, "r;r;??"));
    x.clear();
    Checks.typed(x, "r;");
    due(x.house(), 1);
  }

  static void promise3_changesNothingButTheText() {
    alike(x -> { busy(x); x.clear(); Checks.typed(x, "r;r"); }, Sentences::busy);
  }

  // ---- promise 4: house, what may stand in a text

  static void promise4_answersHowManyItems() {
    items("r;", 1);
    items("r;r;d0 1;c5 0;a1 1 0 9;w0;", 6);
  }

  static void promise4_anEmptyTextHasNoItems() { items("", 0); }

  static void promise4_aTextOfBlanksHasNoItems() {
    items(" ", 0);
    items(pad("", 200), 0);
  }

  static void promise4_theMostOfAllIs23Items() { items(FULLEST, 23); }

  static void promise4_itemsStandInAnyOrderBehindTheirRooms() { items("w1;r;a1 1 0 9;c5 0;d0 0;r;d1 0;", 7); }

  static void promise4_a200thByteIsRead() {
    items(pad("r;", 200), 1);
    fault(pad("r;?", 200), 199);
  }

  static void promise4_blanksMayStandAheadBehindAndBetween() { items("  r  ;  r;d  0   1  ; c 5 0 ;a 1 1 0 9 ;w 0 1 ;  ", 6); }

  static void promise4_blanksMayBeLeftOutBetweenUnlikeTokens() { items("r;c5 0;d0 0;a1 1 0 9;w0;", 5); }

  static void promise4_onlyByte32IsABlank() {
    for (int b : new int[] {0, 9, 10, 11, 12, 13, 31, 33, 127, 128, 160, 255}) fault((char) b + "r;", 0);
  }

  static void promise4_lettersSideBySideAreOneToken() {
    fault("rr;", 0);
    fault("ra;", 0);
    fault("rz;", 0);
    fault("r r;", 2);
  }

  static void promise4_digitsSideBySideAreOneNumber() {
    due(told("r;c12 0;").candle(0, 0), 12);
    due(told("r;c59 0;").candle(0, 0), 59);
    fault("r;c1 2 0;", 5);
  }

  static void promise4_aByteThatBeginsNoTokenIsAFaultAtItsPlace() {
    for (int b = 0; b <= 255; b++) {
      boolean begins = b >= 'a' && b <= 'z' || b >= '0' && b <= '9' || b == ';' || b == ' ';
      if (!begins) {
        fault("r;" + (char) b, 2);
        fault("r" + (char) b + ";", 1);
        fault("r;c5" + (char) b + " 0;", 4);
      }
    }
  }

  static void promise4_theSignsBesideLettersAndDigitsAreNone() {
    fault("r`;", 1);
    fault("r{;", 1);
    fault("r;c5/ 0;", 4);
    fault("r;c5: 0;", 4);
  }

  static void promise4_capitalsAreNoLetters() {
    fault("R;", 0);
    fault("rR;", 1);
  }

  static void promise4_lettersThatBeginNoItemAreAFault() {
    for (char c = 'a'; c <= 'z'; c++) {
      if ("rdcaw".indexOf(c) < 0) {
        fault(c + ";", 0);
        fault("r; " + c, 3);
      }
    }
  }

  static void promise4_wordsOfSeveralLettersBeginNoItem() {
    fault("room;", 0);
    fault("r;dd0 0;", 2);
    fault("r;cc5 0;", 2);
    fault("r;aa1 1 0 9;", 2);
    fault("ww1;", 0);
  }

  static void promise4_aNumberBeginsNoItem() {
    fault("5;", 0);
    fault("r;0", 2);
  }

  static void promise4_aSemicolonBeginsNoItem() {
    fault(";", 0);
    fault("r;;", 2);
  }

  static void promise4_anItemIsEndedByASemicolon() {
    fault("r r;", 2);
    fault("r 1;", 2);
    fault("r;d0 0 r;", 7);
    fault("r;c5 0 r;", 7);
    fault("r;a1 1 0 9 r;", 11);
    fault("w0 r;", 3);
    fault("w0 0 0 0 0 0 0 0 r;", 17);
  }

  static void promise4_lettersWhereANumberShouldBeAreAFault() {
    for (String letters : new String[] {"r", "ab", "w"}) {
      fault("r;d " + letters + " 0;", 4);
      fault("r;d0 " + letters + ";", 5);
      fault("r;c " + letters + " 0;", 4);
      fault("r;c5 " + letters + ";", 5);
      fault("r;a " + letters + " 0 0 9;", 4);
      fault("r;a1 " + letters + " 0 9;", 5);
      fault("r;a1 0 " + letters + " 9;", 7);
      fault("r;a1 0 0 " + letters + ";", 9);
      fault("w " + letters + ";", 2);
      fault("w0 " + letters + ";", 3);
    }
  }

  // ---- promise 4: rooms and doors

  static void promise4_fiveRoomsMayBeTold() {
    items("r;r;r;r;r;", 5);
    due(told("r;r;r;r;r;").count(0), 5);
  }

  static void promise4_aSixthRoomIsAFaultAtItsLetter() {
    fault("r;r;r;r;r;r;", 10);
    fault("r;r;r;r;r;  r", 12);
  }

  static void promise4_fiveDoorsMayBeTold() { items("r;" + "d0 0;".repeat(5), 6); }

  static void promise4_aSixthDoorIsAFaultAtItsLetter() {
    fault("r;" + "d0 0;".repeat(6), 27);
    fault("r;" + "d0 0;".repeat(5) + " d9", 28);
  }

  static void promise4_aDoorMayBeBetweenUnlikeRooms() { items("r;r;d0 1;d1 0;", 4); }

  static void promise4_aDoorMayBeAWindow() { items("r;d0 0;", 2); }

  static void promise4_severalDoorsMayBeBetweenTheSame() { items("r;r;d0 1;d0 1;d1 0;d1 1;d1 1;", 7); }

  static void promise4_aDoorsRoomsAreToldAhead() {
    fault("d0 0;r;", 1);
    fault("r;d1 0;r;", 3);
    fault("r;d0 1;r;", 5);
  }

  static void promise4_aDoorMayBeAtRoom4() { items("r;r;r;r;r;d4 4;", 6); }

  static void promise4_aDoorAtRoom5IsAFault() {
    fault("r;r;r;r;r;d5 4;", 11);
    fault("r;r;r;r;r;d4 5;", 13);
  }

  static void promise4_aDoorHasTwoRooms() {
    fault("r;d;", 3);
    fault("r;d0;", 4);
    fault("r;d0 0 0;", 7);
  }

  // ---- promise 4: candles

  static void promise4_sixCandlesMayBeTold() { items("r;" + "c1 0;".repeat(6), 7); }

  static void promise4_aSeventhCandleIsAFaultAtItsLetter() {
    fault("r;" + "c1 0;".repeat(7), 32);
    fault("r;" + "c1 0;".repeat(6) + " c0", 33);
  }

  static void promise4_lengthMayBe1() { items("r;c1 0;", 2); }

  static void promise4_lengthMayBe60() { items("r;c60 0;", 2); }

  static void promise4_length0IsAFault() { fault("r;c0 0;", 3); }

  static void promise4_length61IsAFault() { fault("r;c61 0;", 3); }

  static void promise4_aCandlesRoomIsToldAhead() {
    fault("c5 0;r;", 3);
    fault("r;c5 1;r;", 5);
    items("r;r;r;r;r;c5 4;", 6);
    fault("r;r;r;r;r;c5 5;", 13);
  }

  static void promise4_aCandleHasTwoNumbers() {
    fault("r;c;", 3);
    fault("r;c5;", 4);
    fault("r;c5 0 0;", 7);
  }

  // ---- promise 4: acts

  static void promise4_sixActsMayBeTold() { items("r;" + "a1 0 0 9;".repeat(6), 7); }

  static void promise4_aSeventhActIsAFaultAtItsLetter() {
    fault("r;" + "a1 0 0 9;".repeat(7), 56);
    fault("r;" + "a1 0 0 9;".repeat(6) + " a0", 57);
  }

  static void promise4_needsMayBe1() { items("r;a1 5 0 9;", 2); }

  static void promise4_needsMayBe20() { items("r;a20 5 0 9;", 2); }

  static void promise4_needs0IsAFault() { fault("r;a0 5 0 9;", 3); }

  static void promise4_needs21IsAFault() { fault("r;a21 5 0 9;", 3); }

  static void promise4_worthMayBe0() { items("r;a5 0 0 9;", 2); }

  static void promise4_worthMayBe9() { items("r;a5 9 0 9;", 2); }

  static void promise4_worth10IsAFault() { fault("r;a5 10 0 9;", 5); }

  static void promise4_anActsRoomIsToldAhead() {
    fault("a5 5 0 9;r;", 5);
    fault("r;a5 5 1 9;r;", 7);
    items("r;r;r;r;r;a5 5 4 9;", 6);
    fault("r;r;r;r;r;a5 5 5 9;", 15);
  }

  static void promise4_anActMayRestOnNone() { items("r;a5 5 0 9;", 2); }

  static void promise4_anActMayRestOnOneToldAhead() {
    items("r;a5 5 0 9;a5 5 0 0;", 3);
    items("r;" + "a1 0 0 9;".repeat(5) + "a1 0 0 0;", 7);
    items("r;" + "a1 0 0 9;".repeat(5) + "a1 0 0 4;", 7);
  }

  static void promise4_anActThatRestsOnItselfIsAFault() {
    fault("r;a5 5 0 0;", 9);
    fault("r;a5 5 0 9;a5 5 0 1;", 18);
    fault("r;" + "a1 0 0 9;".repeat(5) + "a1 0 0 5;", 54);
  }

  static void promise4_anActThatRestsOnALaterOneIsAFault() { fault("r;a5 5 0 1;a5 5 0 9;", 9); }

  static void promise4_anActThatRestsOn8Or10IsAFault() {
    fault("r;a5 5 0 8;", 9);
    fault("r;a5 5 0 10;", 9);
    fault("r;" + "a1 0 0 9;".repeat(5) + "a1 0 0 8;", 54);
  }

  static void promise4_anActHasFourNumbers() {
    fault("r;a;", 3);
    fault("r;a5;", 4);
    fault("r;a5 5;", 6);
    fault("r;a5 5 0;", 8);
    fault("r;a5 5 0 9 9;", 11);
  }

  // ---- promise 4: wind

  static void promise4_windMayHaveOneBit() {
    items("w0;", 1);
    items("w1;", 1);
  }

  static void promise4_windMayHaveEightBits() {
    items("w0 1 0 1 0 1 0 1;", 1);
    due(told("w0 1 0 1 0 1 0 1;").count(4), 8);
  }

  static void promise4_aNinthBitIsAFault() {
    fault("w0 1 0 1 0 1 0 1 0;", 17);
    fault("w0 1 0 1 0 1 0 1  0", 18);
  }

  static void promise4_windWithoutBitsIsAFault() { fault("w;", 1); }

  static void promise4_aBitOf2IsAFault() {
    fault("w2;", 1);
    fault("w0 2;", 3);
    fault("w0 0 0 0 0 0 0 2;", 15);
  }

  static void promise4_windAgainIsAFaultAtItsLetter() {
    fault("w0;w0;", 3);
    fault("w1;r; w", 6);
  }

  static void promise4_bitsSideBySideAreNoBits() {
    fault("w00;", 1);
    fault("w01;", 1);
    fault("w10;", 1);
    fault("w0 11;", 3);
  }

  // ---- promise 4: numbers, and where the fault is

  static void promise4_aNumberAbove99IsAFault() {
    fault("r;c100 0;", 3);
    fault("r;c5 100;", 5);
    fault("r;a1 100 0 9;", 5);
    fault("r;a1 1 0 999;", 9);
  }

  static void promise4_aLongNumberDoesNotComeRound() {
    fault("r;c4294967301 0;", 3);
    fault("r;d4294967296 0;", 3);
    fault("r;a1 1 0 " + "9".repeat(150) + ";", 9);
    fault("w4294967297;", 1);
    fault("r;c105 0;", 3);
    fault("r;c205 0;", 3);
  }

  static void promise4_aNumberWithA0AheadIsAFault() {
    fault("r;c05 0;", 3);
    fault("r;c5 00;", 5);
    fault("r;d00 0;", 3);
    fault("r;d0 00;", 5);
    fault("r;a01 1 0 9;", 3);
    fault("r;a1 01 0 9;", 5);
    fault("r;a1 1 0 09;", 9);
    fault("w01;", 1);
    fault("r;c005 0;", 3);
  }

  static void promise4_aWrongNumbersPlaceIsItsFirstByte() {
    fault("r;c   061 0;", 6);
    fault("r;c5   100;", 7);
  }

  static void promise4_theFirstFaultIsTold() {
    fault("r;x;?", 2);
    fault("r;c61 9;", 3);
    fault("r;d1 1;x", 3);
    fault("r;c5 0 ?", 7);
  }

  static void promise4_aTextThatEndsTooEarlyHasTheFaultAtItsLength() {
    String text = "r;r;d0 1;c60 1;a20 9 1 9;a1 0 0 0;w0 1;";
    for (int bytes = 0; bytes <= text.length(); bytes++) {
      String start = text.substring(0, bytes);
      boolean ended = bytes == 0 || start.charAt(bytes - 1) == ';';
      if (ended) items(start, (int) start.chars().filter(c -> c == ';').count());
      else fault(start, bytes);
    }
  }

  static void promise4_blanksBehindCountToTheLengthOfATextThatEndsTooEarly() {
    fault("r  ", 3);
    fault("r;d0   ", 7);
    fault("w0 ", 3);
  }

  static void promise4_a200ByteTextThatEndsTooEarlyHasItsFaultAt200() { fault(pad("r", 200), 200); }

  static void promise4_aFaultAtPlace0IsMinus10() { due(read("?"), -10); }

  static void promise4_aFaultChangesNothing() {
    refused(x -> { busy(x); x.clear(); Checks.typed(x, "r;?"); }, x -> x.house(), -12);
    refused(x -> { busy(x); x.clear(); Checks.typed(x, FULLEST + "w"); }, x -> x.house(), -10 - FULLEST.length());
    refused(Sentences::busy, x -> x.house(), -13);
  }

  static void promise4_behindAFaultTheTextStays() {
    LitWick x = made(y -> Checks.typed(y, "r;r"));
    due(x.house(), -13);
    due(x.count(7), 3);
    due(x.house(), -13);
    x.type(';');
    due(x.house(), 2);
  }

  // ---- promise 4: what is so when a text has been read

  static void promise4_theTextIsEmptyThen() {
    LitWick x = told("r;");
    due(x.count(7), 0);
    due(x.clear(), 0);
  }

  static void promise4_readAnewTheMinuteIs0() { due(made(Sentences::busy, x -> tell(x, "r;")).now(0), 0); }

  static void promise4_readAnewNothingIsWanted() { due(made(Sentences::busy, x -> tell(x, "r;")).count(5), 0); }

  static void promise4_readAnewNothingIsToBeUndone() {
    LitWick x = made(Sentences::busy, y -> tell(y, "r;"));
    due(x.count(6), 0);
    due(x.undo(), STATE);
  }

  static void promise4_readAnewBothImagesAreGone() {
    LitWick x = made(Sentences::busy, y -> y.keep(1), y -> tell(y, "r;"));
    due(x.back(0), STATE);
    due(x.back(1), STATE);
  }

  static void promise4_readAnewItIsAsTold() {
    for (String text : new String[] {"r;r;c7 1;d1 0;a2 3 1 9;w1;", "", "r;", "r;r;r;r;d0 0;d0 0;d1 3;d2 2;c1 3;c1 3;c1 3;c1 3;a1 1 0 9;a1 1 1 9;a1 1 2 9;a1 1 3 9;a1 1 3 9;"}) {
      alike(x -> { quiet(x); tell(x, text); }, x -> tell(x, text));
    }
  }

  static void promise4_readAnewOldWindIsGone() {
    LitWick x = made(y -> tell(y, "w1 1 1;"), y -> tell(y, "r;"));
    due(x.count(4), 0);
    due(x.now(1), 0);
  }

  static void promise4_theSameTextMayBeReadAgain() {
    alike(x -> { tell(x, FULLEST); x.lights(0, 1); x.minutes(3); tell(x, FULLEST); }, x -> tell(x, FULLEST));
  }

  static void promise4_theTraceStays() {
    LitWick x = made(Sentences::busy);
    long trace = x.trace();
    tell(x, "r;");
    due(x.trace(), trace);
    due(trace, 1011);
  }

  // ---- promise 5: candle

  static void promise5_lengthIsAsTold() {
    LitWick x = told("r;c1 0;c60 0;");
    due(x.candle(0, 0), 1);
    due(x.candle(1, 0), 60);
  }

  static void promise5_leftIsLengthAtFirst() { due(told("r;c60 0;").candle(0, 1), 60); }

  static void promise5_leftMayBe0() {
    LitWick x = told("r;c1 0;");
    x.lights(0, 1);
    x.minutes(2);
    due(x.candle(0, 1), 0);
    due(x.candle(0, 0), 1);
  }

  static void promise5_itsRoomAtFirstIsAsTold() {
    LitWick x = told("r;r;r;r;r;c5 0;c5 4;");
    due(x.candle(0, 2), 0);
    due(x.candle(1, 2), 4);
  }

  static void promise5_isNotLitAtFirst() { due(told("r;c5 0;").candle(0, 3), 0); }

  static void promise5_isNotShieldedAtFirst() { due(told("r;c5 0;").candle(0, 4), 0); }

  static void promise5_toldOfEachCandleByItself() {
    LitWick x = told("r;r;d0 1;c5 0;c6 1;");
    x.lights(1, 1);
    x.shields(0, 1);
    due(x.candle(0, 3), 0);
    due(x.candle(1, 3), 1);
    due(x.candle(0, 4), 1);
    due(x.candle(1, 4), 0);
  }

  static void promise5_theSixthCandleIsNumber5() {
    LitWick x = told(FULLEST);
    x.lights(5, 1);
    x.shields(5, 1);
    due(x.candle(5, 0), 60);
    due(x.candle(5, 1), 60);
    due(x.candle(5, 2), 0);
    due(x.candle(5, 3), 1);
    due(x.candle(5, 4), 1);
  }

  static void promise5_noSuchCandleIsBad() {
    refused(Sentences::busy, x -> x.candle(-1, 0), BAD);
    refused(Sentences::busy, x -> x.candle(3, 0), BAD);
    due(told(FULLEST).candle(6, 0), BAD);
  }

  static void promise5_noSuchWhatIsBad() {
    refused(Sentences::busy, x -> x.candle(0, -1), BAD);
    refused(Sentences::busy, x -> x.candle(0, 5), BAD);
  }

  static void promise5_numbersOutsideAreBad() {
    outside(0, 2, (x, n) -> x.candle(n, 0), BAD);
    outside(0, 4, (x, n) -> x.candle(0, n), BAD);
  }

  static void promise5_changesNothing() { for (int what = 0; what <= 4; what++) { int w = what; changesNothing(Sentences::busy, x -> x.candle(0, w)); } }

  // ---- promise 6: door

  static void promise6_itsRoomsAreAsTold() {
    LitWick x = told("r;r;r;r;r;d4 0;d0 4;");
    due(x.door(0, 0), 4);
    due(x.door(0, 1), 0);
    due(x.door(1, 0), 0);
    due(x.door(1, 1), 4);
  }

  static void promise6_aWindowHasTheSameRoomTwice() {
    LitWick x = told("r;r;d1 1;");
    due(x.door(0, 0), 1);
    due(x.door(0, 1), 1);
  }

  static void promise6_isShutAtFirst() { due(told("r;d0 0;").door(0, 2), 0); }

  static void promise6_isOpenOnceOpenedAndNoMoreOnceShut() {
    LitWick x = told("r;d0 0;d0 0;");
    x.opens(1, 1);
    due(x.door(1, 2), 1);
    due(x.door(0, 2), 0);
    x.opens(1, 0);
    due(x.door(1, 2), 0);
  }

  static void promise6_theFifthDoorIsNumber4() {
    LitWick x = told(FULLEST);
    x.opens(4, 1);
    due(x.door(4, 0), 4);
    due(x.door(4, 1), 4);
    due(x.door(4, 2), 1);
  }

  static void promise6_noSuchDoorIsBad() {
    refused(Sentences::busy, x -> x.door(-1, 0), BAD);
    refused(Sentences::busy, x -> x.door(3, 0), BAD);
    due(told(FULLEST).door(5, 0), BAD);
  }

  static void promise6_noSuchWhatIsBad() {
    refused(Sentences::busy, x -> x.door(0, -1), BAD);
    refused(Sentences::busy, x -> x.door(0, 3), BAD);
  }

  static void promise6_numbersOutsideAreBad() {
    outside(0, 2, (x, n) -> x.door(n, 0), BAD);
    outside(0, 2, (x, n) -> x.door(0, n), BAD);
  }

  static void promise6_changesNothing() { for (int what = 0; what <= 2; what++) { int w = what; changesNothing(Sentences::busy, x -> x.door(0, w)); } }

  // ---- promise 7: act

  static void promise7_needsWorthAndRoomAreAsTold() {
    LitWick x = told("r;r;r;r;r;a1 0 4 9;a20 9 0 9;");
    due(x.act(0, 0), 1);
    due(x.act(0, 1), 0);
    due(x.act(0, 2), 4);
    due(x.act(1, 0), 20);
    due(x.act(1, 1), 9);
    due(x.act(1, 2), 0);
  }

  static void promise7_whatItRestsOnIsAsTold() {
    LitWick x = told("r;a1 0 0 9;a1 0 0 0;a1 0 0 1;");
    due(x.act(0, 3), 9);
    due(x.act(1, 3), 0);
    due(x.act(2, 3), 1);
  }

  static void promise7_is0AtFirst() { due(told("r;a1 0 0 9;").act(0, 4), 0); }

  static void promise7_is1OnceBegun() { due(made(x -> tell(x, "r;a1 0 0 9;"), x -> x.begins(0)).act(0, 4), 1); }

  static void promise7_is2OnceWhole() { due(made(Sentences::busy).act(0, 4), 2); }

  static void promise7_is3OnceVoid() { due(made(Sentences::busy).act(1, 4), 3); }

  static void promise7_hasNoMinutesAtFirst() { due(told("r;a1 0 0 9;").act(0, 5), 0); }

  static void promise7_hasTheMinutesItWasLit() {
    LitWick x = told("r;c60 0;a20 1 0 9;");
    x.lights(0, 1);
    x.begins(0);
    x.minutes(19);
    due(x.act(0, 5), 19);
    x.minutes(1);
    due(x.act(0, 5), 20);
  }

  static void promise7_aWholeOneHasNoMoreThanItNeeds() {
    LitWick x = told("r;c60 0;a2 1 0 9;");
    x.lights(0, 1);
    x.begins(0);
    x.minutes(9);
    due(x.act(0, 5), 2);
  }

  static void promise7_aVoidOneHasTheMinutesItHad() {
    LitWick x = told("r;c3 0;a9 1 0 9;");
    x.lights(0, 1);
    x.begins(0);
    x.minutes(9);
    due(x.act(0, 5), 3);
  }

  static void promise7_theSixthActIsNumber5() {
    LitWick x = told(FULLEST);
    x.begins(5);
    due(x.act(5, 0), 20);
    due(x.act(5, 1), 9);
    due(x.act(5, 2), 0);
    due(x.act(5, 3), 4);
    due(x.act(5, 4), 1);
    due(x.act(5, 5), 0);
  }

  static void promise7_noSuchActIsBad() {
    refused(Sentences::busy, x -> x.act(-1, 0), BAD);
    refused(Sentences::busy, x -> x.act(4, 0), BAD);
    due(told(FULLEST).act(6, 0), BAD);
  }

  static void promise7_noSuchWhatIsBad() {
    refused(Sentences::busy, x -> x.act(0, -1), BAD);
    refused(Sentences::busy, x -> x.act(0, 6), BAD);
  }

  static void promise7_numbersOutsideAreBad() {
    outside(0, 3, (x, n) -> x.act(n, 0), BAD);
    outside(0, 5, (x, n) -> x.act(0, n), BAD);
  }

  static void promise7_changesNothing() { for (int what = 0; what <= 5; what++) { int w = what; changesNothing(Sentences::busy, x -> x.act(0, w)); } }

  // ---- promise 8: room

  static void promise8_hasNoWaxAtFirst() { due(told("r;c5 0;").room(0, 0), 0); }

  static void promise8_waxIsTheMinutesBurnedThere() {
    LitWick x = told("r;r;c60 0;c60 0;c2 0;c9 1;");
    for (int c = 0; c < 3; c++) x.lights(c, 1);
    x.minutes(5);
    due(x.room(0, 0), 12);
    due(x.room(1, 0), 0);
  }

  static void promise8_waxMayBe360() {
    LitWick x = told("r;" + "c60 0;".repeat(6));
    for (int c = 0; c < 6; c++) x.lights(c, 1);
    pass(x, 70);
    due(x.room(0, 0), 360);
  }

  static void promise8_waxStaysWhereItBurned() {
    LitWick x = told("r;r;d0 1;c9 0;");
    x.lights(0, 1);
    x.opens(0, 1);
    x.minutes(2);
    x.carries(0, 1);
    x.minutes(3);
    due(x.room(0, 0), 2);
    due(x.room(1, 0), 3);
  }

  static void promise8_tellsTheCandlesThere() {
    LitWick x = told("r;r;r;c5 0;c5 1;c5 1;c5 1;c5 1;c5 0;");
    due(x.room(0, 1), 33);
    due(x.room(1, 1), 30);
    due(x.room(2, 1), 0);
  }

  static void promise8_aCarriedCandleIsThereAndNoMoreHere() {
    LitWick x = told("r;r;d0 1;c5 0;");
    x.opens(0, 1);
    x.carries(0, 1);
    due(x.room(0, 1), 0);
    due(x.room(1, 1), 1);
  }

  static void promise8_tellsTheLitOnesThere() {
    LitWick x = told("r;r;c5 0;c5 1;c5 1;c5 0;");
    x.lights(0, 1);
    x.lights(1, 1);
    due(x.room(0, 2), 1);
    due(x.room(1, 2), 2);
  }

  static void promise8_isAtAnOpenDoorOnEitherSide() {
    for (String door : new String[] {"d3 1;", "d1 3;"}) {
      LitWick x = told("r;r;r;r;" + door);
      x.opens(0, 1);
      for (int r = 0; r < 4; r++) due(door + " room " + r, x.room(r, 3), r % 2);
    }
  }

  static void promise8_isAtNoOpenDoorOnceItIsShut() {
    LitWick x = told("r;r;d0 1;");
    due(x.room(1, 3), 0);
    x.opens(0, 1);
    x.opens(0, 0);
    due(x.room(0, 3), 0);
    due(x.room(1, 3), 0);
  }

  static void promise8_isAtAnOpenWindow() {
    LitWick x = told("r;r;d1 1;");
    x.opens(0, 1);
    due(x.room(0, 3), 0);
    due(x.room(1, 3), 1);
  }

  static void promise8_isAtAnOpenDoorIfOneOfSeveralIs() {
    LitWick x = told("r;r;d0 1;d0 1;");
    x.opens(0, 1);
    x.opens(1, 1);
    x.opens(0, 0);
    due(x.room(0, 3), 1);
  }

  static void promise8_noSuchRoomIsBad() {
    refused(Sentences::busy, x -> x.room(-1, 0), BAD);
    refused(Sentences::busy, x -> x.room(3, 0), BAD);
    due(told(FULLEST).room(5, 0), BAD);
  }

  static void promise8_theFifthRoomIsNumber4() {
    LitWick x = told(FULLEST);
    x.lights(4, 1);
    x.opens(4, 1);
    x.minutes(1);
    due(x.room(4, 0), 1);
    due(x.room(4, 1), 16);
    due(x.room(4, 2), 16);
    due(x.room(4, 3), 1);
  }

  static void promise8_noSuchWhatIsBad() {
    refused(Sentences::busy, x -> x.room(0, -1), BAD);
    refused(Sentences::busy, x -> x.room(0, 4), BAD);
  }

  static void promise8_numbersOutsideAreBad() {
    outside(0, 2, (x, n) -> x.room(n, 0), BAD);
    outside(0, 3, (x, n) -> x.room(0, n), BAD);
  }

  static void promise8_changesNothing() { for (int what = 0; what <= 3; what++) { int w = what; changesNothing(Sentences::busy, x -> x.room(0, w)); } }
}
