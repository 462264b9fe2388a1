/** Promises 17 to 22, sentence by sentence: what comes, what is best done, plots, guards and what falls. */
public final class ComesTest extends Sentences {
  public static void main(String[] args) { run(ComesTest.class); }

  // ---- promise 17: comes

  static void promise17_in0MinutesItIsAsItIs() {
    LitWick x = made(Sentences::busy);
    due(x.comes(0, 0), 2);
    due(x.comes(1, 0), 3);
    due(x.comes(2, 0), 1);
    due(x.comes(3, 0), 0);
  }

  static void promise17_in60MinutesItMayBeAsked() {
    LitWick x = made(Sentences::busy);
    due(x.comes(0, 60), 2);
    due(x.comes(1, 60), 3);
    due(x.comes(2, 60), 3);
    due(x.comes(3, 60), 0);
  }

  static void promise17_belowZeroMinutesIsBad() { refused(Sentences::busy, x -> x.comes(2, -1), BAD); }

  static void promise17_in61MinutesIsBad() { refused(Sentences::busy, x -> x.comes(2, 61), BAD); }

  static void promise17_noSuchActIsBad() {
    refused(Sentences::busy, x -> x.comes(-1, 1), BAD);
    refused(Sentences::busy, x -> x.comes(4, 1), BAD);
    due(told(FULLEST).comes(6, 1), BAD);
  }

  static void promise17_numbersOutsideAreBad() {
    outside(0, 3, (x, n) -> x.comes(n, 1), BAD);
    outside(0, 60, (x, n) -> x.comes(0, n), BAD);
  }

  static void promise17_wholeInAsManyMinutesAsItNeeds() {
    LitWick x = litAndBegun("r;c60 0;a20 1 0 9;");
    due(x.comes(0, 19), 1);
    due(x.comes(0, 20), 2);
    x.minutes(5);
    due(x.comes(0, 14), 1);
    due(x.comes(0, 15), 2);
  }

  static void promise17_voidOnceTheLightIsBurned() {
    LitWick x = litAndBegun("r;c4 0;a9 1 0 9;");
    due(x.comes(0, 4), 1);
    due(x.comes(0, 5), 3);
  }

  static void promise17_voidOnceTheLightIsBlownOut() {
    LitWick x = litAndBegun("r;d0 0;c60 0;a9 1 0 9;w0 0 1;");
    x.opens(0, 1);
    due(x.comes(0, 2), 1);
    due(x.comes(0, 3), 3);
    x.minutes(1);
    due(x.comes(0, 1), 1);
    due(x.comes(0, 2), 3);
  }

  static void promise17_voidIfItRestsOnNothingWhole() {
    LitWick x = litAndBegun("r;r;c60 0;a1 1 1 9;a3 1 0 0;");
    due(x.comes(1, 2), 1);
    due(x.comes(1, 3), 3);
  }

  static void promise17_wholeIfWhatItRestsOnComesToBe() { due(litAndBegun("r;c60 0;a3 1 0 9;a3 1 0 0;").comes(1, 3), 2); }

  static void promise17_oneThatIsNotBegunIsNotBegunByAsking() { due(told("r;a1 1 0 9;").comes(0, 60), 0); }

  static void promise17_goesOnPastMinute999() {
    LitWick x = told("r;c60 0;a3 1 0 9;");
    pass(x, 999);
    x.lights(0, 1);
    x.begins(0);
    due(x.comes(0, 2), 1);
    due(x.comes(0, 3), 2);
  }

  static void promise17_changesNothing() {
    changesNothing(Sentences::busy, x -> x.comes(2, 60));
    changesNothing(Sentences::busy, x -> x.comes(3, 1));
  }

  // ---- promise 18: first

  static void promise18_theOneInTheFewestMinutes() {
    LitWick x = litAndBegun("r;r;c9 0;c4 1;a20 1 0 9;a20 1 1 9;");
    due(x.first(0), 1);
    due(x.first(1), 5);
  }

  static void promise18_ofSeveralTheLeast() {
    LitWick x = litAndBegun("r;r;c4 0;c4 1;a1 1 0 9;a20 1 1 9;a20 1 0 9;");
    due(x.first(0), 1);
    due(x.first(1), 5);
  }

  static void promise18_theSixthMayBeIt() {
    LitWick x = litAndBegun("r;r;c60 0;" + "a1 1 0 9;".repeat(5) + "a1 1 1 9;");
    due(x.first(0), 5);
    due(x.first(1), 1);
  }

  static void promise18_behindOneMinute() {
    LitWick x = told("r;a1 1 0 9;");
    x.begins(0);
    due(x.first(0), 0);
    due(x.first(1), 1);
  }

  static void promise18_behindTwentyMinutes() {
    LitWick x = told("r;c60 0;a1 1 0 9;a20 1 0 0;");
    x.lights(0, 1);
    x.begins(1);
    due(x.first(0), 1);
    due(x.first(1), 20);
  }

  static void promise18_byWind() {
    LitWick x = litAndBegun("r;d0 0;c60 0;a20 1 0 9;w0 0 0 1;");
    due(x.first(0), NONE);
    x.opens(0, 1);
    due(x.first(1), 4);
    x.minutes(1);
    due(x.first(1), 3);
  }

  static void promise18_noneThatBecomesVoidIsNone() {
    LitWick x = litAndBegun("r;c60 0;a20 1 0 9;");
    due(x.first(0), NONE);
    due(x.first(1), NONE);
  }

  static void promise18_noneBegunIsNone() {
    due(told("r;a1 1 0 9;").first(0), NONE);
    due(told("r;a1 1 0 9;").first(1), NONE);
    due(new LitWick().first(0), NONE);
    due(new LitWick().first(1), NONE);
  }

  static void promise18_oneThatIsVoidDoesNotBecomeIt() {
    LitWick x = told("r;a1 1 0 9;a1 1 0 9;");
    x.begins(0);
    x.minutes(1);
    due(x.first(0), NONE);
    x.begins(1);
    due(x.first(0), 1);
  }

  static void promise18_goesOnPastMinute999() {
    LitWick x = told("r;c3 0;a9 1 0 9;");
    pass(x, 999);
    x.lights(0, 1);
    x.begins(0);
    due(x.first(0), 0);
    due(x.first(1), 4);
  }

  static void promise18_noSuchWhatIsBad() {
    refused(Sentences::busy, x -> x.first(-1), BAD);
    refused(Sentences::busy, x -> x.first(2), BAD);
  }

  static void promise18_numbersOutsideAreBad() { outside(0, 1, (x, n) -> x.first(n), BAD); }

  static void promise18_badGoesAheadOfNone() {
    due(new LitWick().first(-1), BAD);
    due(new LitWick().first(2), BAD);
  }

  static void promise18_changesNothing() {
    changesNothing(Sentences::busy, x -> x.first(0));
    changesNothing(Sentences::busy, x -> x.first(1));
  }

  // ---- promise 19: bestActs

  private static void best(LitWick x, int t, int set, int worth) {
    due("set in " + t, x.bestActs(t, 0), set);
    due("worth in " + t, x.bestActs(t, 1), worth);
  }

  static void promise19_in0MinutesNothing() { best(told(FULLEST), 0, 0, 0); }

  static void promise19_in99MinutesItMayBeAsked() { best(told("r;" + "a20 9 0 9;".repeat(6)), 99, 15, 36); }

  static void promise19_all6MayBeDone() { best(told("r;" + "a16 9 0 9;".repeat(6)), 99, 63, 54); }

  static void promise19_minutesBelow0IsBad() { refused(Sentences::busy, x -> x.bestActs(-1, 0), BAD); }

  static void promise19_minutes100IsBad() { refused(Sentences::busy, x -> x.bestActs(100, 1), BAD); }

  static void promise19_noSuchWhatIsBad() {
    refused(Sentences::busy, x -> x.bestActs(9, -1), BAD);
    refused(Sentences::busy, x -> x.bestActs(9, 2), BAD);
  }

  static void promise19_numbersOutsideAreBad() {
    outside(0, 99, (x, n) -> x.bestActs(n, 0), BAD);
    outside(0, 1, (x, n) -> x.bestActs(9, n), BAD);
  }

  static void promise19_needsTAtMost() {
    LitWick x = told("r;a5 3 0 9;a4 3 0 9;");
    best(x, 3, 0, 0);
    best(x, 4, 2, 3);
    best(x, 8, 2, 3);
    best(x, 9, 3, 6);
  }

  static void promise19_mostWorthGoesAheadOfFewerMinutes() { best(told("r;a1 8 0 9;a9 9 0 9;"), 9, 2, 9); }

  static void promise19_ofSeveralThatOfFewerMinutes() { best(told("r;a5 5 0 9;a4 5 0 9;"), 5, 2, 5); }

  static void promise19_fewerMinutesGoAheadOfLeastBits() { best(told("r;a2 2 0 9;a3 3 0 9;a4 5 0 9;"), 5, 4, 5); }

  static void promise19_thenTheLeastBits() {
    best(told("r;a4 4 0 9;a2 2 0 9;a2 2 0 9;"), 4, 1, 4);
    best(told("r;a2 2 0 9;a2 2 0 9;a4 4 0 9;"), 4, 3, 4);
    best(told("r;a3 3 0 9;a3 3 0 9;a3 3 0 9;"), 6, 3, 6);
  }

  static void promise19_whatIsWorthNothingIsLeftOut() { best(told("r;a1 0 0 9;a1 1 0 9;"), 99, 2, 1); }

  static void promise19_eachWithAllItRestsOn() {
    LitWick x = told("r;a3 0 0 9;a3 0 0 0;a3 9 0 1;");
    best(x, 8, 0, 0);
    best(x, 9, 7, 9);
  }

  static void promise19_wholeOnesCountAsDoneAndNeedNoMinutes() {
    LitWick x = told("r;c60 0;a3 5 0 9;a4 6 0 0;a9 9 0 9;");
    x.lights(0, 1);
    x.begins(0);
    best(x, 4, 1, 5);
    x.minutes(3);
    best(x, 3, 0, 0);
    best(x, 4, 2, 6);
    best(x, 13, 6, 15);
  }

  static void promise19_wholeOnesAreNotInTheSet() { best(litWhole("r;c60 0;a3 5 0 9;", 3), 99, 0, 0); }

  private static LitWick litWhole(String text, int minutes) {
    LitWick x = litAndBegun(text);
    x.minutes(minutes);
    return x;
  }

  static void promise19_voidOnesAreNotInIt() {
    LitWick x = told("r;a1 9 0 9;a2 3 0 9;");
    x.begins(0);
    x.minutes(1);
    best(x, 99, 2, 3);
  }

  static void promise19_norWhatRestsOnAVoidOne() {
    LitWick x = told("r;a1 9 0 9;a2 3 0 0;a2 3 0 1;a1 1 0 9;");
    x.begins(0);
    x.minutes(1);
    best(x, 99, 8, 1);
  }

  static void promise19_begunOnesMayBeInIt() {
    LitWick x = told("r;a2 3 0 9;");
    x.begins(0);
    best(x, 2, 1, 3);
  }

  static void promise19_aBegunOneNeedsAllThatItNeeds() {
    LitWick x = litWhole("r;c60 0;a4 5 0 9;", 2);
    best(x, 3, 0, 0);
    best(x, 4, 1, 5);
  }

  static void promise19_withoutActsNothing() { best(new LitWick(), 99, 0, 0); }

  static void promise19_changesNothing() {
    changesNothing(Sentences::busy, x -> x.bestActs(99, 0));
    changesNothing(Sentences::busy, x -> x.bestActs(99, 1));
  }

  // ---- promise 20: plot

  static void promise20_oneDoorThatBlowsItOut() {
    LitWick x = litAndBegun("r;r;d1 1;d0 1;c60 0;a3 1 0 9;w1;");
    due(x.plot(0), 2);
  }

  static void promise20_theFifthDoorMayBeIt() {
    LitWick x = litAndBegun("r;r;d1 1;d1 1;d1 1;d1 1;d0 0;c60 0;a3 1 0 9;w1;");
    due(x.plot(0), 16);
  }

  static void promise20_ofSeveralTheLeastBits() {
    LitWick x = litAndBegun("r;r;d1 1;d0 1;d0 0;c60 0;a3 1 0 9;w1;");
    due(x.plot(0), 2);
  }

  static void promise20_noDoorMoreIfItIsVoidAsItIs() {
    LitWick x = told("r;d0 0;c2 0;a3 1 0 9;w1;");
    due("dark", x.plot(0), 0);
    x.lights(0, 1);
    due("too short a light", x.plot(0), 0);
  }

  static void promise20_noDoorMoreIfTheOpenOnesDo() {
    LitWick x = litAndBegun("r;d0 0;d0 0;c60 0;a3 1 0 9;w0 0 1;");
    x.opens(1, 1);
    due(x.plot(0), 0);
  }

  static void promise20_noneWithoutDoors() { due(litAndBegun("r;c60 0;a3 1 0 9;w1;").plot(0), NONE); }

  static void promise20_noneWithoutWind() { due(litAndBegun("r;d0 0;c60 0;a3 1 0 9;").plot(0), NONE); }

  static void promise20_noneIfItsLightIsShielded() {
    LitWick x = litAndBegun("r;d0 0;c60 0;a3 1 0 9;w1;");
    x.shields(0, 1);
    due(x.plot(0), NONE);
  }

  static void promise20_noneIfTheDoorsAreElsewhere() { due(litAndBegun("r;r;d1 1;c60 0;a3 1 0 9;w1;").plot(0), NONE); }

  static void promise20_noneIfTheWindComesTooLate() {
    due(litAndBegun("r;d0 0;c60 0;a3 1 0 9;w0 0 0 1;").plot(0), NONE);
    due(litAndBegun("r;d0 0;c60 0;a4 1 0 9;w0 0 0 1;").plot(0), 1);
  }

  static void promise20_windOfThisMinuteCounts() { due(litAndBegun("r;d0 0;c60 0;a1 1 0 9;w1 0;").plot(0), 1); }

  static void promise20_asIfBegunNow() {
    LitWick x = told("r;d0 0;c60 0;a3 1 0 9;w0 0 0 1;");
    x.lights(0, 1);
    due(x.plot(0), NONE);
    x.minutes(1);
    due(x.plot(0), 1);
    due(x.act(0, 4), 0);
  }

  static void promise20_aBegunOneKeepsTheMinutesItHas() {
    LitWick x = litAndBegun("r;d0 0;c60 0;a3 1 0 9;w0 0 0 1;");
    x.minutes(1);
    due(x.plot(0), NONE);
  }

  static void promise20_itAloneIsAsIfBegun() {
    LitWick x = told("r;d0 0;c60 0;a3 1 0 9;a3 1 0 0;");
    x.lights(0, 1);
    due(x.plot(1), 0);
    x.begins(0);
    due(x.plot(1), NONE);
  }

  static void promise20_aDoorAtWhatItRestsOn() {
    LitWick x = told("r;r;d1 1;d0 0;c60 0;c60 1;a3 1 0 9;a3 1 1 0;w1;");
    x.lights(0, 1);
    x.lights(1, 1);
    x.shields(1, 1);
    x.begins(0);
    due(x.plot(1), 2);
  }

  static void promise20_oneThatNeeds20() {
    due(litAndBegun("r;d0 0;c20 0;a20 1 0 9;w0;").plot(0), NONE);
    due(litAndBegun("r;d0 0;c19 0;a20 1 0 9;w0;").plot(0), 0);
  }

  static void promise20_goesOnPastMinute999() {
    LitWick x = told("r;d0 0;c60 0;a3 1 0 9;w0 0 1;");
    pass(x, 999);
    x.lights(0, 1);
    due(x.plot(0), 1);
  }

  static void promise20_aWholeOneIsState() { refused(Sentences::busy, x -> x.plot(0), STATE); }

  static void promise20_aVoidOneIsState() { refused(Sentences::busy, x -> x.plot(1), STATE); }

  static void promise20_noSuchActIsBad() {
    refused(Sentences::busy, x -> x.plot(-1), BAD);
    refused(Sentences::busy, x -> x.plot(4), BAD);
    due(told(FULLEST).plot(6), BAD);
  }

  static void promise20_numbersOutsideAreBad() { outside(0, 3, (x, n) -> x.plot(n), BAD); }

  static void promise20_changesNothing() {
    changesNothing(Sentences::busy, x -> x.plot(2));
    changesNothing(Sentences::busy, x -> x.plot(3));
  }

  // ---- promise 21: guard

  static void promise21_allDoorsThatBlowItOut() {
    LitWick x = litAndBegun("r;r;d0 1;d1 1;d0 0;c60 0;a3 1 0 9;w1;");
    for (int d = 0; d < 3; d++) x.opens(d, 1);
    due(x.guard(0), 5);
  }

  static void promise21_allFiveDoors() {
    LitWick x = litAndBegun("r;" + "d0 0;".repeat(5) + "c60 0;a3 1 0 9;w1;");
    for (int d = 0; d < 5; d++) x.opens(d, 1);
    due(x.guard(0), 31);
  }

  static void promise21_onlyOpenDoorsAreShut() {
    LitWick x = litAndBegun("r;d0 0;d0 0;d0 0;c60 0;a3 1 0 9;w1;");
    x.opens(1, 1);
    due(x.guard(0), 2);
  }

  static void promise21_noDoorIfItIsWholeAsItIs() {
    LitWick x = litAndBegun("r;d0 0;c60 0;a3 1 0 9;w0;");
    x.opens(0, 1);
    due(x.guard(0), 0);
  }

  static void promise21_noDoorIfItsLightIsShielded() {
    LitWick x = litAndBegun("r;d0 0;c60 0;a3 1 0 9;w1;");
    x.opens(0, 1);
    x.shields(0, 1);
    due(x.guard(0), 0);
  }

  static void promise21_noneInTheDark() {
    LitWick x = told("r;d0 0;c60 0;a3 1 0 9;w1;");
    x.opens(0, 1);
    due(x.guard(0), NONE);
  }

  static void promise21_noneByTooShortALight() {
    due(litAndBegun("r;c2 0;a3 1 0 9;").guard(0), NONE);
    due(litAndBegun("r;c3 0;a3 1 0 9;").guard(0), 0);
  }

  static void promise21_noneIfWhatItRestsOnIsNotBegun() {
    LitWick x = told("r;c60 0;a3 1 0 9;a3 1 0 0;");
    x.lights(0, 1);
    due(x.guard(1), NONE);
    x.begins(0);
    due(x.guard(1), 0);
  }

  static void promise21_theDoorsAtWhatItRestsOnToo() {
    LitWick x = litAndBegun("r;r;r;d0 0;d1 1;d2 2;c60 0;c60 1;c60 2;a3 1 0 9;a3 1 1 0;w1;");
    for (int d = 0; d < 3; d++) x.opens(d, 1);
    due(x.guard(1), 3);
    due(x.guard(0), 1);
  }

  static void promise21_windOfThisMinuteCounts() {
    LitWick x = litAndBegun("r;d0 0;c60 0;a1 1 0 9;w1 0;");
    x.opens(0, 1);
    due(x.guard(0), 1);
  }

  static void promise21_asIfBegunNow() {
    LitWick x = told("r;d0 0;c60 0;a3 1 0 9;w0 0 0 1;");
    x.lights(0, 1);
    x.opens(0, 1);
    due(x.guard(0), 0);
    x.minutes(1);
    due(x.guard(0), 1);
    due(x.act(0, 4), 0);
  }

  static void promise21_aBegunOneKeepsTheMinutesItHas() {
    LitWick x = litAndBegun("r;d0 0;c60 0;a3 1 0 9;w0 0 0 1;");
    x.opens(0, 1);
    x.minutes(1);
    due(x.guard(0), 0);
  }

  static void promise21_oneThatNeeds20() {
    due(litAndBegun("r;c20 0;a20 1 0 9;").guard(0), 0);
    due(litAndBegun("r;c19 0;a20 1 0 9;").guard(0), NONE);
  }

  static void promise21_goesOnPastMinute999() {
    LitWick x = told("r;d0 0;c60 0;a3 1 0 9;w0 0 1;");
    pass(x, 999);
    x.lights(0, 1);
    x.opens(0, 1);
    due(x.guard(0), 1);
  }

  static void promise21_aWholeOneIsState() { refused(Sentences::busy, x -> x.guard(0), STATE); }

  static void promise21_aVoidOneIsState() { refused(Sentences::busy, x -> x.guard(1), STATE); }

  static void promise21_noSuchActIsBad() {
    refused(Sentences::busy, x -> x.guard(-1), BAD);
    refused(Sentences::busy, x -> x.guard(4), BAD);
    due(told(FULLEST).guard(6), BAD);
  }

  static void promise21_numbersOutsideAreBad() { outside(0, 3, (x, n) -> x.guard(n), BAD); }

  static void promise21_changesNothing() {
    changesNothing(Sentences::busy, x -> x.guard(2));
    changesNothing(Sentences::busy, x -> x.guard(3));
  }

  // ---- promise 22: falls

  static void promise22_itTooFalls() { due(told("r;a1 1 0 9;a1 1 0 9;").falls(1), 2); }

  static void promise22_allThatRestsOnIt() { due(told("r;a1 1 0 9;a1 1 0 0;a1 1 0 9;a1 1 0 0;").falls(0), 11); }

  static void promise22_andWhatRestsOnThese() { due(told(FULLEST).falls(0), 63); }

  static void promise22_notWhatItRestsOn() {
    LitWick x = told(FULLEST);
    due(x.falls(3), 56);
    due(x.falls(5), 32);
  }

  static void promise22_branchesApart() {
    LitWick x = told("r;a1 1 0 9;a1 1 0 9;a1 1 0 0;a1 1 0 1;a1 1 0 2;a1 1 0 3;");
    due(x.falls(0), 21);
    due(x.falls(1), 42);
  }

  static void promise22_whateverTheActsAre() {
    LitWick x = made(Sentences::busy);
    due(x.falls(0), 5);
    due(x.falls(1), 2);
    due(x.falls(3), 8);
  }

  static void promise22_noSuchActIsBad() {
    refused(Sentences::busy, x -> x.falls(-1), BAD);
    refused(Sentences::busy, x -> x.falls(4), BAD);
    due(told(FULLEST).falls(6), BAD);
  }

  static void promise22_numbersOutsideAreBad() { outside(0, 3, (x, n) -> x.falls(n), BAD); }

  static void promise22_changesNothing() { changesNothing(Sentences::busy, x -> x.falls(0)); }
}
