/** Boundary cases of promises 6 to 17: guests, and how the evening goes on from now, if nothing is done. */
public final class EdgesOfNowTest extends Edges {
  public static void main(String[] args) {
    runAll(EdgesOfNowTest.class, 6, 17);
  }

  /** One guest who leaves at the hour told. */
  private static EveningVow till(int hour) {
    return plainly(guest("a", "plain", hour, 1));
  }

  private static EveningVow homeless(int many) {
    return plainly(guests(many, "homeless", 9, 20));
  }

  /** Nobody is there: all seven were sent home at hour 0. */
  private static EveningVow empty() {
    EveningVow x = homeless(7);
    for (int g = 0; g < 7; g++) x.send(g);
    return x;
  }

  // ---- 6: guest

  static void promise06_noSuchGuest() {
    EveningVow x = homeless(3);
    for (int g : new int[] {-1, 3, 7, LEAST, MOST}) {
      for (int what = 0; what <= 5; what++) refused(x, "guest " + g, x.guest(g, what), -1000, 1);
    }
    due("the last one", x.guest(2, 0), 3);
    due("trouble", x.trouble(), 0);
    due("the seventh", homeless(7).guest(6, 0), 3);
  }

  static void promise06_noSuchWhat() {
    EveningVow x = homeless(1);
    for (int what : new int[] {-1, 6, 7, LEAST, MOST}) refused(x, "what " + what, x.guest(0, what), -1000, 1);
  }

  static void promise06_noEvening() {
    EveningVow x = new EveningVow();
    refused(x, "guest", x.guest(0, 0), -1000, 1);
  }

  static void promise06_kinds() {
    EveningVow x = plainly(guest("a", "plain", 1, 0), guest("b", "polite", 1, 0), guest("c", "hired", 1, 0), guest("d", "homeless", 1, 0));
    for (int g = 0; g < 4; g++) due("kind " + g, x.guest(g, 0), g);
  }

  static void promise06_wantOfOneWhoLeftStays() {
    EveningVow x = plainly(guest("a", "plain", 1, 20), guest("b", "homeless", 1, 20), "tale t hours 1 tires 0");
    x.hour();
    due("below 0", x.guest(0, 1), -19);
    x.hour();
    due("it sinks no more", x.guest(0, 1), -19);
    x.tell(0);
    due("tales tire him no more", x.guest(0, 1), -19);
    due("a homeless one's never sinks", x.guest(1, 1), 1);
  }

  static void promise06_aTaleTiresOnlyThoseThere() {
    EveningVow x = plainly(guest("a", "homeless", 9, 0), guest("b", "homeless", 9, 0), "tale t hours 1 tires 5");
    x.send(0);
    x.tell(0);
    due("sent home", x.guest(0, 1), 9);
    due("there", x.guest(1, 1), 4);
  }

  static void promise06_willByThoseThereAlone() {
    EveningVow x = plainly(guests(3, "homeless", 9, 0), "draws a b by 20", "draws a c by 1");
    due("by both", x.guest(0, 2), 30);
    x.send(1);
    due("by one", x.guest(0, 2), 10);
    x.send(2);
    due("by nobody", x.guest(0, 2), 9);
    due("who draws is not drawn", x.guest(1, 2), 9);
  }

  static void promise06_willOfOneWhoLeftAsIfHeWereThere() {
    EveningVow x = plainly(guests(2, "homeless", 9, 0), "draws a b by 20");
    x.send(0);
    due("will", x.guest(0, 2), 29);
    due("he isn't there", x.guest(0, 3), 0);
  }

  static void promise06_1IfHeIsThere() {
    EveningVow x = homeless(2);
    due("there", x.guest(0, 3), 1);
    x.send(0);
    due("not there", x.guest(0, 3), 0);
    due("the other one", x.guest(1, 3), 1);
  }

  static void promise06_theHourAtWhichHeLeft() {
    EveningVow x = plainly(guest("a", "plain", 1, 1), guest("b", "homeless", 9, 0), guest("c", "homeless", 9, 0));
    due("there", x.guest(0, 4), -2);
    x.send(1);
    due("hour 0", x.guest(1, 4), 0);
    x.hour();
    due("hour 1", x.guest(0, 4), 1);
    hours(x, 98);
    x.send(2);
    due("hour 99", x.guest(2, 4), 99);
    due("still hour 1", x.guest(0, 4), 1);
  }

  static void promise06_theOtherOneOfHisPair() {
    EveningVow x = of(0, 1, 5, guests(7, "homeless", 9, 0), "pair g a");
    due("guest 0 is no -2", x.guest(6, 5), 0);
    due("guest 6", x.guest(0, 5), 6);
    due("none", x.guest(3, 5), -2);
    x.send(0);
    due("even if he has left", x.guest(6, 5), 0);
    due("himself, too", x.guest(0, 5), 6);
  }

  // ---- 7: drawn

  static void promise07_noSuchGuests() {
    EveningVow x = homeless(2);
    for (int g : new int[] {-1, 2, LEAST, MOST}) {
      refused(x, "drawn " + g, x.drawn(g, 0), 1);
      refused(x, "drawn by " + g, x.drawn(0, g), 1);
      refused(x, "both " + g, x.drawn(g, g), 1);
    }
    x = new EveningVow();
    refused(x, "no EVENING", x.drawn(0, 1), 1);
  }

  static void promise07_unlike() {
    EveningVow x = homeless(2);
    refused(x, "by himself", x.drawn(0, 0), 1);
    refused(x, "by himself", x.drawn(1, 1), 1);
    due("unlike", x.drawn(0, 1), 0);
    due("trouble", x.trouble(), 0);
  }

  static void promise07_0IfHeIsnt() {
    EveningVow x = plainly(guests(3, "homeless", 9, 0), "draws a b by 1", "draws b c by 20");
    due("by 1", x.drawn(0, 1), 1);
    due("by 20", x.drawn(1, 2), 20);
    due("the other way", x.drawn(1, 0), 0);
    due("by one behind another", x.drawn(0, 2), 0);
    x.send(1);
    due("as told, even if he has left", x.drawn(0, 1), 1);
  }

  static void promise07_allEight() {
    EveningVow x = of(FULL);
    due("the first", x.drawn(0, 1), 1);
    due("the eighth", x.drawn(0, 6), 1);
    due("no ninth", x.drawn(6, 5), 0);
  }

  // ---- 8: there

  static void promise08_noEvening() {
    EveningVow x = new EveningVow();
    refused(x, "there", x.there(), 1);
  }

  static void promise08_allAndNobody() {
    due("one", homeless(1).there(), 1);
    due("seven", homeless(7).there(), 127);
    EveningVow x = empty();
    due("nobody", x.there(), 0);
    due("trouble", x.trouble(), 0);
  }

  // ---- 9: leaving

  static void promise09_noEvening() {
    EveningVow x = new EveningVow();
    refused(x, "leaving", x.leaving(), 1);
  }

  static void promise09_nobodyOrAll() {
    due("nobody leaves", till(2).leaving(), 0);
    due("all leave", plainly(guests(7, "plain", 1, 1)).leaving(), 127);
    due("nobody is there", empty().leaving(), 0);
  }

  static void promise09_aWillOf0OrLess() {
    due("will 1", plainly(guest("a", "plain", 2, 1)).leaving(), 0);
    due("will 0", plainly(guest("a", "plain", 2, 2)).leaving(), 1);
    due("will -1", plainly(guest("a", "plain", 2, 3)).leaving(), 1);
    due("drawn to 1", plainly(guest("a", "plain", 1, 2), guest("b", "homeless", 9, 0), "draws a b by 2").leaving(), 0);
    due("drawn to 0", plainly(guest("a", "plain", 1, 2), guest("b", "homeless", 9, 0), "draws a b by 1").leaving(), 1);
  }

  static void promise09_aPoliteOneNeverFirst() {
    due("alone", plainly(guest("p", "polite", 1, 20)).leaving(), 0);
    due("all polite", plainly(guests(7, "polite", 1, 20)).leaving(), 0);
    due("behind one who leaves on an earlier round", plainly(guest("p", "polite", 1, 1), guest("a", "plain", 1, 1)).leaving(), 3);
  }

  static void promise09_aPoliteOneBehindAnEarlierHour() {
    EveningVow x = plainly(guest("p", "polite", 2, 1), guest("a", "plain", 1, 1), guest("q", "polite", 3, 1));
    due("a", x.leaving(), 2);
    x.hour();
    due("then p", x.leaving(), 1);
    x.hour();
    due("then q", x.leaving(), 4);
  }

  static void promise09_aPoliteOneBehindOneSentHome() {
    EveningVow x = plainly(guest("p", "polite", 1, 1), guest("b", "homeless", 9, 0));
    due("nobody has left", x.leaving(), 0);
    x.send(1);
    due("b was sent home", x.leaving(), 1);
  }

  static void promise09_ofAPairTheOtherOneGrieves() {
    due("to 1", of(0, 1, 8, guest("a", "plain", 1, 1), guest("b", "homeless", 9, 0), "pair a b").leaving(), 1);
    due("to 0", of(0, 1, 9, guest("a", "plain", 1, 1), guest("b", "homeless", 9, 0), "pair a b").leaving(), 3);
    due("by 0", of(0, 1, 0, guest("a", "plain", 1, 1), guest("b", "homeless", 1, 0), "pair b a").leaving(), 1);
  }

  static void promise09_nothingIsDone() {
    EveningVow x = till(1);
    x.leaving();
    due("there", x.there(), 1);
    due("hour", x.size(9), 0);
    due("acts", x.size(11), 0);
  }

  static void promise09_behindHour99() {
    EveningVow x = plainly(guest("a", "plain", 99, 0), guest("b", "hired", 94, 1));
    hours(x, 99);
    due("hour", x.size(9), 99);
    due("b, who has sunk 93 times", x.leaving(), 2);
  }

  // ---- 10: thereIn

  static void promise10_from0To60Hours() {
    EveningVow x = till(60);
    due("0", x.thereIn(0), 1);
    due("59", x.thereIn(59), 1);
    due("60", x.thereIn(60), 0);
    due("trouble", x.trouble(), 0);
    due("61", till(61).thereIn(60), 1);
    for (int h : new int[] {-1, 61, LEAST, MOST}) refused(x, "" + h, x.thereIn(h), 2);
  }

  static void promise10_noEvening() {
    EveningVow x = new EveningVow();
    refused(x, "thereIn", x.thereIn(0), 1);
    refused(x, "ahead of a number", x.thereIn(61), 1);
  }

  static void promise10_nobodyIsThere() {
    due("0", empty().thereIn(0), 0);
    due("60", empty().thereIn(60), 0);
  }

  // ---- 11: wantIn

  static void promise11_from0To60Hours() {
    EveningVow x = till(99);
    due("0", x.wantIn(0, 0), 99);
    due("1", x.wantIn(0, 1), 98);
    due("60", x.wantIn(0, 60), 39);
    for (int h : new int[] {-1, 61, LEAST, MOST}) refused(x, "" + h, x.wantIn(0, h), -1000, 2);
  }

  static void promise11_noSuchGuest() {
    EveningVow x = till(99);
    for (int g : new int[] {-1, 1, LEAST, MOST}) refused(x, "" + g, x.wantIn(g, 0), -1000, 1);
    refused(x, "ahead of a number", x.wantIn(1, 61), -1000, 1);
    x = new EveningVow();
    refused(x, "no EVENING", x.wantIn(0, 0), -1000, 1);
  }

  static void promise11_aHiredOneFromHour6On() {
    EveningVow x = plainly(guest("a", "hired", 99, 10));
    due("at hour 6", x.wantIn(0, 6), 99);
    due("at hour 7", x.wantIn(0, 7), 89);
    due("at hour 8", x.wantIn(0, 8), 79);
    hours(x, 5);
    due("from hour 5", x.wantIn(0, 1), 99);
    x.hour();
    due("from hour 6", x.wantIn(0, 1), 89);
  }

  static void promise11_aHomelessOneNever() {
    due("60", plainly(guest("a", "homeless", 1, 20)).wantIn(0, 60), 1);
  }

  static void promise11_aPoliteOneWhoWaitsSinks() {
    due("60", plainly(guest("a", "polite", 1, 20)).wantIn(0, 60), 1 - 60 * 20);
  }

  static void promise11_oneWhoLeavesSinksNoMore() {
    EveningVow x = plainly(guest("a", "plain", 5, 3));
    due("left at 2", x.wantIn(0, 2), -1);
    due("behind it", x.wantIn(0, 60), -1);
  }

  static void promise11_griefOnceAndNotWhenBothLeaveAtOnce() {
    EveningVow x = of(0, 1, 40, guest("a", "plain", 1, 1), guest("b", "plain", 1, 1), "pair a b");
    due("a", x.wantIn(0, 1), 0);
    due("b", x.wantIn(1, 1), 0);
    x = of(0, 1, 4, guest("a", "plain", 1, 1), guest("b", "homeless", 9, 0), "pair a b");
    due("b", x.wantIn(1, 1), 5);
    due("b, once", x.wantIn(1, 60), 5);
    x = of(0, 1, 4, guest("a", "plain", 1, 1), guest("b", "plain", 9, 1), "pair a b");
    due("b leaves at 5", x.wantIn(1, 60), 0);
    due("a, who had left, doesn't grieve then", x.wantIn(0, 60), 0);
  }

  // ---- 12: busiest

  static void promise12_noEvening() {
    EveningVow x = new EveningVow();
    refused(x, "busiest", x.busiest(true), 1);
    refused(x, "busiest", x.busiest(false), 1);
  }

  static void promise12_theFirstSuch() {
    EveningVow x = plainly(guest("a", "plain", 1, 1), guest("b", "plain", 2, 1), guest("c", "plain", 2, 1), guest("d", "plain", 3, 1), guest("e", "plain", 3, 1));
    due("hour", x.busiest(true), 2);
    due("there", x.busiest(false), 2);
  }

  static void promise12_theFirstAndTheLastHour() {
    due("hour 1", till(1).busiest(true), 1);
    due("hour 1, there", till(1).busiest(false), 0);
    due("hour 60", till(60).busiest(true), 60);
    due("hour 60, there", till(60).busiest(false), 0);
  }

  static void promise12_nobodyLeavesIn60() {
    due("hour 61", till(61).busiest(true), -2);
    due("hour 61, there", till(61).busiest(false), -2);
    due("nobody is there", empty().busiest(true), -2);
    due("nobody is there", empty().busiest(false), -2);
  }

  static void promise12_hoursFromNow() {
    EveningVow x = till(5);
    hours(x, 3);
    due("hour", x.busiest(true), 2);
  }

  // ---- 13: order

  static void promise13_belowZero() {
    EveningVow x = till(1);
    refused(x, "-1", x.order(-1), 1);
    refused(x, "least", x.order(LEAST), 1);
    x = new EveningVow();
    refused(x, "no EVENING", x.order(0), 1);
  }

  static void promise13_soManyDontLeave() {
    EveningVow x = plainly(guest("a", "plain", 60, 1), guest("b", "plain", 61, 1));
    due("0", x.order(0), 0);
    due("b leaves in 61", x.order(1), -2);
    due("trouble", x.trouble(), 0);
    due("most", x.order(MOST), -2);
    due("nobody is there", empty().order(0), -2);
    x.hour();
    due("b leaves in 60", x.order(1), 1);
  }

  static void promise13_thoseOfOneHourByNumbers() {
    EveningVow x = of(0, 1, 9, guest("a", "homeless", 9, 0), guest("b", "plain", 1, 1), "pair a b");
    due("a leaves on the second round", x.rounds(), 2);
    due("0", x.order(0), 0);
    due("1", x.order(1), 1);
    x = plainly(guest("a", "plain", 3, 1), guest("b", "plain", 2, 1), guest("c", "plain", 3, 1));
    due("b, ahead of all", x.order(0), 1);
    due("then a", x.order(1), 0);
    due("then c", x.order(2), 2);
  }

  static void promise13_allSeven() {
    EveningVow x = plainly(guests(7, "plain", 1, 1));
    for (int i = 0; i < 7; i++) due("order " + i, x.order(i), i);
    due("order 7", x.order(7), -2);
  }

  static void promise13_thoseThereNow() {
    EveningVow x = plainly(guests(3, "plain", 2, 1));
    x.send(0);
    due("0", x.order(0), 1);
    due("1", x.order(1), 2);
    due("2", x.order(2), -2);
  }

  // ---- 14: pull

  static void promise14_noSuchGuest() {
    EveningVow x = homeless(2);
    for (int g : new int[] {-1, 2, LEAST, MOST}) refused(x, "" + g, x.pull(g), 1);
    x = new EveningVow();
    refused(x, "no EVENING", x.pull(0), 1);
  }

  static void promise14_nobodyOrAllOthers() {
    EveningVow x = plainly(guests(7, "homeless", 9, 0), "draws b a by 20", "draws c a by 20", "draws d a by 20", "draws e a by 20", "draws f a by 20", "draws g a by 20", "draws a b by 3");
    due("all others", x.pull(0), 120);
    due("one", x.pull(1), 3);
    due("nobody", x.pull(2), 0);
    due("trouble", x.trouble(), 0);
    x.send(1);
    due("those there", x.pull(0), 100);
    for (int g = 2; g < 7; g++) x.send(g);
    due("none of them is there", x.pull(0), 0);
    due("by all eight draws", of(FULL).pull(0), 6);
    due("by the eighth", of(FULL).pull(6), 1);
  }

  // ---- 15: leavesIn

  static void promise15_noSuchGuest() {
    EveningVow x = homeless(2);
    for (int g : new int[] {-1, 2, LEAST, MOST}) refused(x, "" + g, x.leavesIn(g), 1);
    x = new EveningVow();
    refused(x, "no EVENING", x.leavesIn(0), 1);
  }

  static void promise15_heHas() {
    EveningVow x = empty();
    due("sent home at once", x.leavesIn(0), 0);
    due("trouble", x.trouble(), 0);
    x = till(1);
    x.hour();
    due("left", x.leavesIn(0), 0);
  }

  static void promise15_in1To60OrNot() {
    due("1", till(1).leavesIn(0), 1);
    due("60", till(60).leavesIn(0), 60);
    due("61", till(61).leavesIn(0), -2);
    due("homeless", homeless(1).leavesIn(0), -2);
    due("polite, alone", plainly(guest("a", "polite", 1, 20)).leavesIn(0), -2);
    due("sinks by 0", plainly(guest("a", "plain", 1, 0)).leavesIn(0), -2);
    due("hired", plainly(guest("a", "hired", 1, 1)).leavesIn(0), 7);
  }

  // ---- 16: ends

  static void promise16_noEvening() {
    EveningVow x = new EveningVow();
    refused(x, "ends", x.ends(), 1);
  }

  static void promise16_in0To60OrNot() {
    due("nobody is there", empty().ends(), 0);
    due("1", till(1).ends(), 1);
    due("60", till(60).ends(), 60);
    due("61", till(61).ends(), -2);
    due("one stays", plainly(guest("a", "plain", 1, 1), guest("b", "homeless", 1, 0)).ends(), -2);
  }

  static void promise16_beyondHour99() {
    EveningVow x = plainly(guest("a", "hired", 99, 1));
    hours(x, 99);
    due("6 hours more", x.ends(), 6);
  }

  // ---- 17: last

  static void promise17_noEvening() {
    EveningVow x = new EveningVow();
    refused(x, "last", x.last(), 1);
  }

  static void promise17_nobodyIsThere() {
    EveningVow x = empty();
    due("0", x.last(), 0);
    x = till(1);
    due("1", x.last(), 1);
    x.hour();
    due("not those who left last", x.last(), 0);
  }

  static void promise17_itDoesntEnd() {
    due("in 61", till(61).last(), -2);
    due("in 60", till(60).last(), 1);
    due("never", plainly(guest("a", "plain", 1, 1), guest("b", "homeless", 1, 0)).last(), -2);
  }

  static void promise17_allOfTheHourNotOfTheRound() {
    EveningVow x = of(0, 1, 9, guest("a", "plain", 1, 1), guest("b", "plain", 3, 1), guest("c", "homeless", 9, 0), "pair b c");
    due("b, then c by grief", x.last(), 6);
  }
}
