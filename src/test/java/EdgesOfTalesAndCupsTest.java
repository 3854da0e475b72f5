/** Boundary cases of promises 28 to 35: tales by which it ends soonest, cups by which it lasts longest. */
public final class EdgesOfTalesAndCupsTest extends Edges {
  private static final String FOUR_TALES = "tale p hours 3 tires 2;tale q hours 3 tires 2;tale r hours 3 tires 2;tale s hours 3 tires 2";

  public static void main(String[] args) {
    runAll(EdgesOfTalesAndCupsTest.class, 28, 35);
  }

  /** One guest who leaves at an hour, and a tale. */
  private static EveningVow till(int hour, String tale) {
    return plainly(guest("a", "plain", hour, 1), tale);
  }

  private static EveningVow empty(String... lines) {
    EveningVow x = of(4, 5, 0, "guest a homeless want 9 sinks 0;guest b homeless want 9 sinks 0" + (lines.length == 0 ? "" : ";" + String.join(";", lines)));
    x.send(0);
    x.send(1);
    return x;
  }

  // ---- 28: endsWithTale

  static void promise28_noSuchTale() {
    EveningVow x = till(9, "tale t hours 1 tires 0");
    for (int t : new int[] {-1, 1, 4, LEAST, MOST}) refused(x, "" + t, x.endsWithTale(t), 1);
    x = plainly(guest("a", "plain", 9, 1));
    refused(x, "no tales at all", x.endsWithTale(0), 1);
    x = new EveningVow();
    refused(x, "no EVENING", x.endsWithTale(0), 1);
    due("the fourth", plainly(guest("a", "homeless", 2, 1), FOUR_TALES).endsWithTale(3), 3);
  }

  static void promise28_toldAlready() {
    EveningVow x = till(9, "tale t hours 1 tires 0");
    x.tell(0);
    refused(x, "told", x.endsWithTale(0), 5);
    x.undo();
    due("undone", x.endsWithTale(0), 9);
  }

  static void promise28_notAheadOfItsEnd() {
    due("all leave in its first hour", till(1, "tale t hours 3 tires 30").endsWithTale(0), 3);
    due("in its last hour", till(3, "tale t hours 3 tires 0").endsWithTale(0), 3);
    due("behind it", till(4, "tale t hours 3 tires 0").endsWithTale(0), 4);
    due("nobody is there", empty("tale t hours 2 tires 0").endsWithTale(0), 2);
  }

  static void promise28_in60OrNot() {
    due("in 60", till(61, "tale t hours 3 tires 1").endsWithTale(0), 60);
    due("not in 60", till(62, "tale t hours 3 tires 1").endsWithTale(0), -2);
    due("a homeless one, tired to 0", plainly(guest("a", "homeless", 30, 0), "tale t hours 1 tires 30").endsWithTale(0), 1);
    due("a homeless one, tired to 1", plainly(guest("a", "homeless", 31, 0), "tale t hours 1 tires 30").endsWithTale(0), -2);
  }

  static void promise28_nothingIsDone() {
    EveningVow x = till(9, "tale t hours 3 tires 30");
    x.endsWithTale(0);
    due("not told", led(x, 0), THROWN);
    due("want", x.guest(0, 1), 9);
    due("hour", x.size(9), 0);
  }

  // ---- 29: endsWithCup

  static void promise29_noSuchGuest() {
    EveningVow x = of(1, 5, 0, guests(2, "plain", 9, 1));
    for (int g : new int[] {-1, 2, LEAST, MOST}) refused(x, "" + g, x.endsWithCup(g), 1);
    x = new EveningVow();
    refused(x, "no EVENING", x.endsWithCup(0), 1);
  }

  static void promise29_heIsntThere() {
    EveningVow x = empty();
    refused(x, "sent home", x.endsWithCup(0), 5);
  }

  static void promise29_whetherThereIsACupOrNot() {
    EveningVow x = of(0, 5, 0, guest("a", "plain", 9, 1));
    due("no cups told", x.endsWithCup(0), 14);
    x = of(1, 5, 0, guest("a", "plain", 9, 1));
    x.cup(0);
    due("no cups left", x.endsWithCup(0), 19);
    due("nothing is done", x.guest(0, 1), 14);
  }

  static void promise29_in60OrNot() {
    due("in 60", of(0, 1, 0, guest("a", "plain", 59, 1)).endsWithCup(0), 60);
    due("not in 60", of(0, 1, 0, guest("a", "plain", 60, 1)).endsWithCup(0), -2);
  }

  // ---- 30: bestCup

  static void promise30_noEvening() {
    EveningVow x = new EveningVow();
    refused(x, "bestCup", x.bestCup(), 1);
  }

  static void promise30_nobodyIsThere() {
    EveningVow x = empty();
    due("bestCup", x.bestCup(), -2);
    due("trouble", x.trouble(), 0);
  }

  static void promise30_theFirstSuch() {
    due("two alike", of(1, 5, 0, guests(2, "plain", 9, 1)).bestCup(), 0);
    EveningVow x = of(1, 5, 0, guest("a", "plain", 1, 1), guest("b", "plain", 9, 1), guest("c", "plain", 9, 1));
    due("b and c alike", x.bestCup(), 1);
  }

  static void promise30_notIn60IsLatestOfAll() {
    EveningVow x = of(1, 1, 0, guest("a", "plain", 59, 1), guest("b", "plain", 60, 1), guest("c", "plain", 60, 1));
    due("a's cup: in 60", x.endsWithCup(0), 60);
    due("b's cup: not in 60", x.endsWithCup(1), -2);
    due("b, ahead of c", x.bestCup(), 1);
    due("never anyway: the first there", of(0, 1, 0, guests(3, "homeless", 9, 0)).bestCup(), 0);
  }

  static void promise30_withoutCupsToo() {
    due("no cups told", of(0, 5, 0, guest("a", "plain", 1, 1), guest("b", "plain", 9, 1)).bestCup(), 1);
  }

  // ---- 31: soonest

  static void promise31_noEvening() {
    EveningVow x = new EveningVow();
    refused(x, "soonest", x.soonest(), 1);
  }

  static void promise31_noTalesOrAllTold() {
    due("none", plainly(guest("a", "plain", 9, 1)).soonest(), 9);
    EveningVow x = plainly(guest("a", "plain", 70, 1), FOUR_TALES);
    for (int t = 0; t < 4; t++) x.tell(t);
    due("all told", x.soonest(), 50);
  }

  static void promise31_notAheadOfTheEndOfTheRow() {
    EveningVow x = plainly(guest("a", "homeless", 8, 0), FOUR_TALES);
    due("he leaves at hour 10, the fourth tale is told at 12", x.soonest(), 12);
    x = plainly(guest("a", "homeless", 6, 0), FOUR_TALES);
    due("the third is told at 9", x.soonest(), 9);
  }

  static void promise31_in60OrNot() {
    due("in 60", till(61, "tale t hours 3 tires 1").soonest(), 60);
    due("not in 60", till(62, "tale t hours 3 tires 1").soonest(), -2);
    due("all tales aren't enough", plainly(guest("a", "homeless", 9, 0), FOUR_TALES).soonest(), -2);
  }

  static void promise31_nobodyIsThere() {
    due("no tale is told", empty(FOUR_TALES).soonest(), 0);
  }

  static void promise31_fromNowBehindEachAct() {
    EveningVow x = of(1, 9, 0, guest("a", "plain", 9, 1), "tale t hours 1 tires 5");
    x.image();
    due("told", x.soonest(), 4);
    x.cup(0);
    due("a cup later", x.soonest(), 13);
    x.undo();
    due("undone", x.soonest(), 4);
    x.tell(0);
    due("behind the tale", x.soonest(), 3);
    x.back(0);
    due("gone back", x.soonest(), 4);
    x.send(0);
    due("sent home", x.soonest(), 0);
    Texts.tell(x, text(0, 1, 0, guest("a", "plain", 50, 1)));
    due("told anew", x.soonest(), 50);
  }

  // ---- 32: taleAt

  static void promise32_noSuchPlace() {
    EveningVow x = till(9, "tale t hours 1 tires 5");
    due("0", x.taleAt(0), 0);
    for (int i : new int[] {-1, 1, 4, LEAST, MOST}) refused(x, "" + i, x.taleAt(i), 1);
    x = new EveningVow();
    refused(x, "no EVENING", x.taleAt(0), 1);
  }

  static void promise32_anEmptyRow() {
    EveningVow x = till(1, "tale t hours 3 tires 30");
    refused(x, "no tale is sooner", x.taleAt(0), 1);
    x = plainly(guest("a", "plain", 9, 1));
    refused(x, "no tales", x.taleAt(0), 1);
    x = empty(FOUR_TALES);
    refused(x, "nobody is there", x.taleAt(0), 1);
  }

  static void promise32_aRowOfAllTales() {
    EveningVow x = plainly(guest("a", "homeless", 8, 0), FOUR_TALES);
    for (int i = 0; i < 4; i++) due("" + i, x.taleAt(i), i);
    refused(x, "4", x.taleAt(4), 1);
    due("led, none is told by that", led(x, 0), THROWN);
  }

  static void promise32_itEndsIn60() {
    due("in 60", till(61, "tale t hours 3 tires 1").taleAt(0), 0);
    EveningVow x = till(60, "tale t hours 3 tires 0");
    refused(x, "in 60 without a tale", x.taleAt(0), 1);
  }

  static void promise32_itDoesntEnd() {
    EveningVow x = plainly(guest("a", "homeless", 9, 0), FOUR_TALES);
    refused(x, "by no row", x.taleAt(0), 6);
    x = plainly(guest("a", "homeless", 9, 0));
    refused(x, "nor without tales", x.taleAt(0), 6);
    x = till(62, "tale t hours 3 tires 1");
    refused(x, "not in 60", x.taleAt(0), 6);
  }

  static void promise32_ofLikeOnesTheShortestRow() {
    // p alone ends it in 2 hours, and so do q and r: p is shorter, though q and r come by as soon
    EveningVow x = plainly(guest("a", "homeless", 4, 0), "tale q hours 1 tires 2", "tale r hours 1 tires 2", "tale p hours 2 tires 4");
    due("soonest", x.soonest(), 2);
    due("p", x.taleAt(0), 2);
    refused(x, "alone", x.taleAt(1), 1);
  }

  static void promise32_ofTheseTheFirstByTales() {
    EveningVow x = plainly(guest("a", "homeless", 4, 0), "tale p hours 3 tires 1", "tale q hours 1 tires 2", "tale r hours 1 tires 2", "tale s hours 1 tires 2");
    due("q", x.taleAt(0), 1);
    due("r", x.taleAt(1), 2);
    refused(x, "no more", x.taleAt(2), 1);
    x.tell(1);
    due("q is told: r", x.taleAt(0), 2);
  }

  // ---- 33: latest

  static void promise33_noEvening() {
    EveningVow x = new EveningVow();
    refused(x, "latest", x.latest(), 1);
  }

  static void promise33_noCups() {
    due("none told", of(0, 30, 0, guest("a", "plain", 9, 1)).latest(), 9);
    EveningVow x = of(1, 30, 0, guest("a", "plain", 9, 1));
    due("one", x.latest(), 39);
    x.cup(0);
    due("given", x.latest(), 39);
  }

  static void promise33_in60OrNot() {
    due("in 60 by 4", of(4, 1, 0, guest("a", "plain", 56, 1)).latest(), 60);
    due("not in 60 by 4", of(4, 1, 0, guest("a", "plain", 57, 1)).latest(), -2);
    due("never anyway", of(0, 1, 0, guest("a", "homeless", 1, 0)).latest(), -2);
  }

  static void promise33_nobodyIsThere() {
    due("0", empty().latest(), 0);
  }

  static void promise33_fromNowBehindEachAct() {
    EveningVow x = of(2, 9, 0, guest("a", "plain", 9, 1), guest("b", "plain", 5, 1));
    x.image();
    due("told", x.latest(), 27);
    due("a's cups", x.cupsTo(0), 2);
    x.hour();
    due("an hour later", x.latest(), 26);
    x.undo();
    due("undone", x.latest(), 27);
    x.send(0);
    due("without a", x.latest(), 23);
    due("a's cups then", x.cupsTo(0), 0);
    due("too many hours then", x.cupsFor(24), -2);
    x.back(0);
    due("gone back", x.latest(), 27);
    Texts.tell(x, text(0, 1, 0, guest("a", "plain", 3, 1)));
    due("told anew", x.latest(), 3);
    due("cups told anew", x.cupsFor(4), -2);
  }

  static void promise33_nothingIsDone() {
    EveningVow x = of(4, 1, 0, guest("a", "plain", 9, 1));
    x.latest();
    due("cups", x.size(0), 4);
    due("want", x.guest(0, 1), 9);
  }

  // ---- 34: cupsFor

  static void promise34_from0To60Hours() {
    EveningVow x = of(4, 1, 0, guest("a", "plain", 57, 1));
    due("0", x.cupsFor(0), 0);
    due("57", x.cupsFor(57), 0);
    due("58", x.cupsFor(58), 1);
    due("60", x.cupsFor(60), 3);
    for (int h : new int[] {-1, 61, LEAST, MOST}) refused(x, "" + h, x.cupsFor(h), 2);
  }

  static void promise34_noEvening() {
    EveningVow x = new EveningVow();
    refused(x, "cupsFor", x.cupsFor(0), 1);
    refused(x, "ahead of a number", x.cupsFor(61), 1);
  }

  static void promise34_notIn60IsEnough() {
    due("never anyway", of(0, 1, 0, guest("a", "homeless", 1, 0)).cupsFor(60), 0);
    due("one is beyond 60", of(1, 30, 0, guest("a", "plain", 59, 1)).cupsFor(60), 1);
  }

  static void promise34_allArentEnough() {
    due("4", of(4, 1, 0, guest("a", "plain", 55, 1)).cupsFor(60), -2);
    due("4 are, by one more", of(4, 1, 0, guest("a", "plain", 56, 1)).cupsFor(60), 4);
    due("none", of(0, 1, 0, guest("a", "plain", 9, 1)).cupsFor(10), -2);
    due("nobody is there", empty().cupsFor(1), -2);
    due("nobody is there, 0", empty().cupsFor(0), 0);
  }

  // ---- 35: cupsTo

  static void promise35_noSuchGuest() {
    EveningVow x = of(1, 5, 0, guests(2, "plain", 9, 1));
    for (int g : new int[] {-1, 2, LEAST, MOST}) refused(x, "" + g, x.cupsTo(g), 1);
    x = new EveningVow();
    refused(x, "no EVENING", x.cupsTo(0), 1);
    x = of(1, 5, 0, guest("a", "homeless", 9, 1));
    refused(x, "1 ahead of 6", x.cupsTo(1), 1);
  }

  static void promise35_itDoesntEndByThem() {
    EveningVow x = of(4, 1, 0, guest("a", "plain", 57, 1));
    refused(x, "not in 60", x.cupsTo(0), 6);
    x = of(4, 1, 0, guest("a", "plain", 56, 1));
    due("in 60", x.cupsTo(0), 4);
    due("trouble", x.trouble(), 0);
  }

  static void promise35_oneWhoIsntThereGetsNone() {
    EveningVow x = of(2, 5, 0, guests(2, "plain", 9, 1));
    x.send(1);
    due("a", x.cupsTo(0), 2);
    due("b", x.cupsTo(1), 0);
    due("trouble", x.trouble(), 0);
    due("nobody is there", empty().cupsTo(0), 0);
  }

  static void promise35_ofLikeOnesFewest() {
    EveningVow x = of(4, 1, 0, guest("a", "plain", 6, 6));
    due("one is as good as four", x.cupsTo(0), 1);
    x = of(4, 1, 0, guest("a", "plain", 1, 20), guest("b", "plain", 19, 1));
    due("a's are of no use", x.cupsTo(0), 0);
    due("b's are", x.cupsTo(1), 4);
    due("none is of use", of(4, 1, 0, guest("a", "plain", 1, 20)).cupsTo(0), 0);
  }

  static void promise35_theLessToTheFirstOnes() {
    EveningVow x = of(1, 5, 0, guests(7, "plain", 9, 1));
    for (int g = 0; g < 6; g++) due("guest " + g, x.cupsTo(g), 0);
    due("the last one", x.cupsTo(6), 1);
  }
}
