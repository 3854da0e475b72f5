/** Boundary cases of promises 18 to 27: who holds the evening. */
public final class EdgesOfHoldersTest extends Edges {
  /** Each of seven is drawn by the one ahead of him. */
  private static final String ROW_OF_DRAWS = "draws b a by 20;draws c b by 20;draws d c by 20;draws e d by 20;draws f e by 20;draws g f by 20";

  public static void main(String[] args) {
    runAll(EdgesOfHoldersTest.class, 18, 27);
  }

  private static EveningVow till(int hour) {
    return plainly(guest("a", "plain", hour, 1));
  }

  private static EveningVow empty() {
    EveningVow x = of(0, 1, 5, guests(2, "homeless", 9, 20), "pair a b", "draws a b by 1");
    x.send(0);
    x.send(1);
    return x;
  }

  // ---- 18: chain

  static void promise18_noSuchGuest() {
    EveningVow x = till(5);
    for (int g : new int[] {-1, 1, LEAST, MOST}) refused(x, "" + g, x.chain(g), 1);
    x = new EveningVow();
    refused(x, "no EVENING", x.chain(0), 1);
  }

  static void promise18_heIsntThere() {
    EveningVow x = empty();
    refused(x, "sent home", x.chain(0), 5);
    x = plainly(guest("a", "plain", 1, 1), guest("b", "homeless", 1, 0));
    x.hour();
    refused(x, "left", x.chain(0), 5);
  }

  static void promise18_himselfAlone() {
    EveningVow x = till(5);
    x.undo();
    due("chain", x.chain(0), 1);
    due("trouble", x.trouble(), 0);
    due("with others there", plainly(guests(7, "plain", 1, 1)).chain(6), 64);
  }

  static void promise18_aWillOf0ByGrief() {
    due("to 1", of(0, 1, 8, guests(2, "homeless", 9, 0), "pair a b").chain(0), 1);
    due("to 0", of(0, 1, 9, guests(2, "homeless", 9, 0), "pair a b").chain(0), 3);
  }

  static void promise18_aWillOf0WithoutHisDraw() {
    EveningVow x = plainly(guest("a", "homeless", 9, 0), guest("b", "plain", 2, 1), "draws b a by 5");
    x.hour();
    due("b still wants 1", x.chain(0), 1);
    x.hour();
    due("b wants 0", x.chain(0), 3);
  }

  static void promise18_somebodyHasLeftThen() {
    EveningVow x = plainly(guest("p", "polite", 1, 1), guest("a", "homeless", 9, 0), guest("q", "polite", 2, 1));
    due("all want more", x.chain(1), 2);
    x.hour();
    due("p waited for that", x.chain(1), 3);
    due("a polite one himself goes", x.chain(0), 1);
    x.hour();
    due("q, too", x.chain(1), 7);
  }

  static void promise18_allSevenRoundByRound() {
    EveningVow x = of(text(0, 1, 0, guests(7, "plain", 9, 9), ROW_OF_DRAWS).replace("a plain", "a homeless"));
    x.hour();
    due("they stay for one another", x.there(), 127);
    due("chain of the first", x.chain(0), 127);
    due("chain of the last", x.chain(6), 64);
  }

  static void promise18_nothingIsDone() {
    EveningVow x = of(0, 1, 9, guests(2, "homeless", 9, 0), "pair a b");
    x.chain(0);
    due("there", x.there(), 3);
    due("want", x.guest(1, 1), 9);
    due("acts", x.size(11), 0);
  }

  // ---- 19: biggest

  static void promise19_noEvening() {
    EveningVow x = new EveningVow();
    refused(x, "biggest", x.biggest(), 1);
  }

  static void promise19_nobodyIsThere() {
    EveningVow x = empty();
    due("biggest", x.biggest(), -2);
    due("trouble", x.trouble(), 0);
  }

  static void promise19_theFirstSuch() {
    due("all alike", plainly(guests(7, "homeless", 9, 0)).biggest(), 0);
    EveningVow x = of(0, 1, 9, guests(3, "homeless", 9, 0), "pair b c");
    due("b and c alike", x.biggest(), 1);
    x = plainly(guests(3, "homeless", 9, 0));
    x.send(0);
    due("the first there", x.biggest(), 1);
  }

  // ---- 20: undrawn

  static void promise20_noSuchGuests() {
    EveningVow x = plainly(guests(2, "plain", 9, 1), "draws a b by 1");
    for (int g : new int[] {-1, 2, LEAST, MOST}) {
      refused(x, "" + g, x.undrawn(g, 0), 1);
      refused(x, "by " + g, x.undrawn(0, g), 1);
      refused(x, "both " + g, x.undrawn(g, g), 1);
    }
    x = new EveningVow();
    refused(x, "no EVENING", x.undrawn(0, 1), 1);
  }

  static void promise20_unlike() {
    EveningVow x = plainly(guests(2, "plain", 9, 1), "draws a b by 1");
    refused(x, "himself", x.undrawn(0, 0), 1);
    refused(x, "himself", x.undrawn(1, 1), 1);
  }

  static void promise20_heIsntDrawn() {
    EveningVow x = plainly(guests(2, "plain", 9, 1), "draws a b by 1");
    refused(x, "the other way", x.undrawn(1, 0), 5);
    due("as told", x.undrawn(0, 1), 9);
    due("trouble", x.trouble(), 0);
  }

  /** b, homeless, leaves of grief with a; a is drawn to stay an hour longer. */
  private static EveningVow drawnTill(int hour) {
    return of(0, 1, 1, guest("a", "plain", hour, 1), guest("b", "homeless", 1, 0), "pair a b", "draws a b by 1");
  }

  static void promise20_in60OrNot() {
    EveningVow x = drawnTill(60);
    due("drawn, not in 60", x.ends(), -2);
    due("undrawn in 60", x.undrawn(0, 1), 60);
    due("drawn as ever", x.ends(), -2);
    due("not even undrawn", drawnTill(61).undrawn(0, 1), -2);
    due("undrawn in 1", drawnTill(1).undrawn(0, 1), 1);
    due("drawn in 2", drawnTill(1).ends(), 2);
  }

  static void promise20_nobodyIsThere() {
    due("undrawn", empty().undrawn(0, 1), 0);
  }

  static void promise20_onlyThatOne() {
    EveningVow x = plainly(guest("a", "plain", 1, 1), guest("b", "plain", 30, 1), guest("c", "plain", 30, 1), "draws a b by 4", "draws a c by 2", "draws b a by 20");
    due("ends", x.ends(), 30);
    // a stays till 7, with c's draw alone till 3, with b's till 5; b stays till 30 all the same
    x.undrawn(0, 1);
    due("drawn by b", x.drawn(0, 1), 4);
    due("drawn by c", x.drawn(0, 2), 2);
    due("drawn the other way", x.drawn(1, 0), 20);
    due("a leaves as ever", x.leavesIn(0), 7);
  }

  // ---- 21: apart

  static void promise21_noSuchGuest() {
    EveningVow x = of(0, 1, 1, guests(2, "plain", 9, 1), "pair a b");
    for (int g : new int[] {-1, 2, LEAST, MOST}) refused(x, "" + g, x.apart(g), 1);
    x = new EveningVow();
    refused(x, "no EVENING", x.apart(0), 1);
  }

  static void promise21_heIsInNone() {
    EveningVow x = of(0, 1, 1, guests(3, "plain", 9, 1), "pair a b");
    refused(x, "c", x.apart(2), 5);
    due("a", x.apart(0), 9);
    due("trouble", x.trouble(), 0);
  }

  static void promise21_in60OrNot() {
    EveningVow x = of(0, 1, 9, guest("a", "plain", 2, 1), guest("b", "plain", 60, 1), "pair a b");
    due("a pair", x.ends(), 51);
    due("in 60", x.apart(0), 60);
    due("in 60, the other one's", x.apart(1), 60);
    due("a pair as ever", x.ends(), 51);
    due("not in 60", of(0, 1, 9, guest("a", "plain", 2, 1), guest("b", "plain", 61, 1), "pair a b").apart(0), -2);
    due("still the other one", x.guest(0, 5), 1);
    due("still the other one", x.guest(1, 5), 0);
  }

  static void promise21_theOtherOneHasLeft() {
    EveningVow x = of(0, 1, 9, guest("a", "plain", 2, 1), guest("b", "plain", 60, 1), "pair a b");
    hours(x, 2);
    due("there is no more grief", x.apart(0), 49);
    due("nor of b", x.apart(1), 49);
    due("nobody is there", empty().apart(0), 0);
  }

  static void promise21_onlyThatPair() {
    EveningVow x = of(0, 1, 40, guest("a", "plain", 1, 1), guest("b", "plain", 20, 1), guest("c", "plain", 2, 1), guest("d", "plain", 30, 1), "pair a b", "pair d c");
    due("both pairs", x.ends(), 2);
    due("a and b apart", x.apart(1), 20);
    due("c and d apart", x.apart(2), 30);
  }

  // ---- 22: rounds

  static void promise22_noEvening() {
    EveningVow x = new EveningVow();
    refused(x, "rounds", x.rounds(), 1);
  }

  static void promise22_noneIfNobodyLeaves() {
    due("in hour 1", till(2).rounds(), 0);
    due("nobody is there", empty().rounds(), 0);
    due("polite", plainly(guests(2, "polite", 1, 1)).rounds(), 0);
  }

  static void promise22_askedTwice() {
    EveningVow x = till(1);
    x.ends();
    due("once", x.rounds(), 1);
    due("twice", x.rounds(), 1);
    x.hour();
    due("behind it", x.rounds(), 0);
  }

  static void promise22_oneIfAllLeaveAtOnce() {
    due("one", till(1).rounds(), 1);
    due("seven guests", plainly(guests(7, "plain", 1, 1)).rounds(), 1);
  }

  static void promise22_aRoundForEach() {
    EveningVow x = plainly(guests(7, "plain", 9, 9), ROW_OF_DRAWS);
    due("one by one", x.rounds(), 7);
  }

  static void promise22_politeOnesOnTheSecondRound() {
    due("p behind a", plainly(guest("p", "polite", 1, 1), guest("a", "plain", 1, 1), guest("q", "polite", 1, 1)).rounds(), 2);
    EveningVow x = plainly(guest("p", "polite", 2, 1), guest("a", "plain", 1, 1), guest("b", "plain", 2, 1));
    x.hour();
    due("an earlier hour: at once", x.rounds(), 1);
  }

  // ---- 23: byGrief

  static void promise23_from0To40() {
    EveningVow x = of(0, 1, 7, guest("a", "plain", 1, 1), guest("b", "homeless", 40, 0), "pair a b");
    due("40", x.byGrief(40), 1);
    due("39", x.byGrief(39), -2);
    due("0", x.byGrief(0), -2);
    for (int grief : new int[] {-1, 41, LEAST, MOST}) refused(x, "" + grief, x.byGrief(grief), 2);
    due("grief as ever", x.size(2), 7);
    due("ends as ever", x.ends(), -2);
  }

  static void promise23_noEvening() {
    EveningVow x = new EveningVow();
    refused(x, "byGrief", x.byGrief(0), 1);
    refused(x, "ahead of a number", x.byGrief(41), 1);
  }

  static void promise23_in60OrNot() {
    EveningVow x = of(0, 1, 40, guest("a", "plain", 1, 1), guest("b", "plain", 61, 1), "pair a b");
    due("0", x.byGrief(0), -2);
    due("1", x.byGrief(1), 60);
    due("nobody is there", empty().byGrief(0), 0);
    due("no pairs", till(5).byGrief(40), 5);
  }

  static void promise23_griefThatIsPastStays() {
    EveningVow x = of(0, 1, 10, guest("a", "plain", 1, 1), guest("b", "plain", 31, 1), "pair a b");
    x.hour();
    due("b wants 20", x.byGrief(0), 20);
    due("b wants 20", x.byGrief(40), 20);
  }

  // ---- 24: tireFor

  static void promise24_from0To60Hours() {
    EveningVow x = till(61);
    due("60", x.tireFor(60), 1);
    due("1", x.tireFor(1), 60);
    due("0: there is no LEAVING NOW", x.tireFor(0), -2);
    for (int h : new int[] {-1, 61, LEAST, MOST}) refused(x, "" + h, x.tireFor(h), 2);
    due("by nothing", till(60).tireFor(60), 0);
  }

  static void promise24_noEvening() {
    EveningVow x = new EveningVow();
    refused(x, "tireFor", x.tireFor(0), 1);
    refused(x, "ahead of a number", x.tireFor(61), 1);
  }

  static void promise24_by200OrNone() {
    EveningVow x = of(4, 30, 0, guest("a", "homeless", 80, 0));
    for (int i = 0; i < 4; i++) x.cup(0);
    due("200", x.tireFor(60), 200);
    x = of(4, 30, 0, guest("a", "homeless", 81, 0));
    for (int i = 0; i < 4; i++) x.cup(0);
    due("201", x.tireFor(60), -2);
  }

  static void promise24_nobodyIsThere() {
    due("0", empty().tireFor(0), 0);
    due("60", empty().tireFor(60), 0);
  }

  static void promise24_aPoliteOneAloneIsNeverTired() {
    due("60", plainly(guest("p", "polite", 1, 1)).tireFor(60), -2);
  }

  static void promise24_theWantsStay() {
    EveningVow x = till(61);
    x.tireFor(1);
    due("want", x.guest(0, 1), 61);
  }

  // ---- 25: endsWithout

  static void promise25_noSuchGuest() {
    EveningVow x = till(5);
    for (int g : new int[] {-1, 1, LEAST, MOST}) refused(x, "" + g, x.endsWithout(g), 1);
    x = new EveningVow();
    refused(x, "no EVENING", x.endsWithout(0), 1);
  }

  static void promise25_heIsntThere() {
    EveningVow x = empty();
    refused(x, "sent home", x.endsWithout(1), 5);
  }

  static void promise25_in0To60OrNot() {
    due("the only one", till(61).endsWithout(0), 0);
    due("his pair leaves with him", of(0, 1, 9, guests(2, "homeless", 9, 0), "pair a b").endsWithout(1), 0);
    EveningVow x = plainly(guest("a", "plain", 60, 1), guest("b", "homeless", 9, 0));
    due("in 60", x.endsWithout(1), 60);
    due("not without a", x.endsWithout(0), -2);
    due("not in 60", plainly(guest("a", "plain", 61, 1), guest("b", "homeless", 9, 0)).endsWithout(1), -2);
    due("nothing is done", x.there(), 3);
  }

  // ---- 26: holder

  static void promise26_noEvening() {
    EveningVow x = new EveningVow();
    refused(x, "holder", x.holder(), 1);
  }

  static void promise26_nobodyIsThere() {
    EveningVow x = empty();
    due("holder", x.holder(), -2);
    due("trouble", x.trouble(), 0);
  }

  static void promise26_withoutNobodySooner() {
    due("two as long", plainly(guests(2, "plain", 5, 1)).holder(), -2);
    due("two for ever", plainly(guests(2, "homeless", 5, 1)).holder(), -2);
    due("alone", till(1).holder(), 0);
    due("alone, for ever", plainly(guest("a", "homeless", 1, 0)).holder(), 0);
  }

  static void promise26_theFirstSuch() {
    EveningVow x = plainly(guests(2, "plain", 3, 1), "draws a b by 9", "draws b a by 9");
    due("both", x.ends(), 12);
    due("without a", x.endsWithout(0), 3);
    due("without b", x.endsWithout(1), 3);
    due("the first", x.holder(), 0);
  }

  static void promise26_soonestNotOnlySooner() {
    EveningVow x = of(0, 1, 5, guest("a", "plain", 8, 1), guest("b", "plain", 10, 1), "pair a b");
    due("as it is", x.ends(), 8);
    due("without a", x.endsWithout(0), 5);
    due("without b", x.endsWithout(1), 3);
    due("b", x.holder(), 1);
  }

  static void promise26_in60OrNot() {
    due("in 60", plainly(guest("a", "plain", 60, 1), guest("b", "homeless", 9, 0)).holder(), 1);
    due("not in 60", plainly(guest("a", "plain", 61, 1), guest("b", "homeless", 9, 0)).holder(), -2);
  }

  // ---- 27: without

  static void promise27_from0To60Hours() {
    EveningVow x = plainly(guest("a", "plain", 60, 1), guest("b", "plain", 61, 1));
    due("60", x.without(60), 2);
    due("59", x.without(59), 3);
    due("0", x.without(0), 3);
    for (int h : new int[] {-1, 61, LEAST, MOST}) refused(x, "" + h, x.without(h), 2);
  }

  static void promise27_noEvening() {
    EveningVow x = new EveningVow();
    refused(x, "without", x.without(0), 1);
    refused(x, "ahead of a number", x.without(61), 1);
  }

  static void promise27_nobodyOrAll() {
    due("nobody must", till(60).without(60), 0);
    due("nobody is there", empty().without(0), 0);
    due("all seven", plainly(guests(7, "homeless", 9, 0)).without(60), 127);
    EveningVow x = plainly(guests(7, "homeless", 9, 0));
    x.send(3);
    due("all six there", x.without(0), 119);
  }

  static void promise27_ofLikeOnesTheLeastBits() {
    due("a or b", of(0, 1, 9, guests(2, "homeless", 9, 0), "pair a b").without(0), 1);
    due("b or c, and a", of(0, 1, 9, guests(3, "homeless", 9, 0), "pair b c").without(60), 3);
  }

  static void promise27_theFewestEvenIfOfMoreBits() {
    EveningVow x = of(0, 1, 9, guest("a", "homeless", 9, 0), guest("b", "plain", 2, 1), guest("c", "homeless", 9, 0), "pair a c", "draws b c by 9", "draws c b by 1");
    hours(x, 2);
    due("all are there", x.there(), 7);
    // a and b together, bits 3, would do as well: c, 4, is fewer
    due("c alone", x.without(0), 4);
  }

  static void promise27_nothingIsDone() {
    EveningVow x = of(0, 1, 9, guests(2, "homeless", 20, 0), "pair a b");
    due("both", x.without(60), 3);
    due("there", x.there(), 3);
    due("want", x.guest(0, 1), 20);
    due("acts", x.size(11), 0);
  }
}
