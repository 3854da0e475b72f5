/** Boundary cases of promises 48 to 54: hours, tales, cups, guests sent home, undoing, images. */
public final class EdgesOfActsTest extends Edges {
  public static void main(String[] args) {
    runAll(EdgesOfActsTest.class, 48, 54);
  }

  private static final String TALES = "tale p hours 1 tires 0;tale q hours 2 tires 0;tale r hours 3 tires 0";

  /** Two who stay for ever, tales of 1, 2 and 3 hours, at an hour. */
  private static EveningVow at(int hour) {
    EveningVow x = of(4, 30, 5, guests(2, "homeless", 99, 20), TALES);
    hours(x, hour);
    return x;
  }

  private static EveningVow empty() {
    EveningVow x = at(0);
    x.send(0);
    x.send(1);
    return x;
  }

  // ---- 48: hour

  static void promise48_noEvening() {
    EveningVow x = new EveningVow();
    refused(x, "hour", x.hour(), 1);
  }

  static void promise48_99HoursAtMost() {
    EveningVow x = at(98);
    due("the 99th", x.hour(), 0);
    due("trouble", x.trouble(), 0);
    due("it is 99", x.size(9), 99);
    refused(x, "the 100th", x.hour(), 3);
    due("it is 99 still", x.size(9), 99);
    due("undo", x.undo(), true);
    due("it is 98", x.size(9), 98);
    due("the 99th once more", x.hour(), 0);
  }

  static void promise48_nobodyIsThere() {
    EveningVow x = empty();
    refused(x, "hour", x.hour(), 6);
    due("hour 0", x.size(9), 0);
    due("refused, it is no act", x.size(11), 2);
  }

  static void promise48_99WentByAndNobodyIsThere() {
    EveningVow x = at(99);
    x.send(0);
    x.send(1);
    refused(x, "3 ahead of 6", x.hour(), 3);
  }

  static void promise48_nobodyOrAllLeave() {
    EveningVow x = plainly(guests(7, "plain", 2, 1));
    due("nobody", x.hour(), 0);
    due("all", x.hour(), 127);
    refused(x, "nobody is there", x.hour(), 6);
  }

  // ---- 49: tell

  static void promise49_noSuchTale() {
    EveningVow x = at(0);
    for (int t : new int[] {-1, 3, 4, LEAST, MOST}) refused(x, "" + t, x.tell(t), 1);
    due("no act", x.size(11), 0);
    x = new EveningVow();
    refused(x, "no EVENING", x.tell(0), 1);
    x = empty();
    refused(x, "1 ahead of 6", x.tell(3), 1);
  }

  static void promise49_itMayReach99() {
    EveningVow x = at(96);
    due("3 hours", x.tell(2), 0);
    due("it is 99", x.size(9), 99);
    x = at(97);
    due("2 hours", x.tell(1), 0);
    due("it is 99", x.size(9), 99);
    x = at(98);
    due("1 hour", x.tell(0), 0);
    due("it is 99", x.size(9), 99);
  }

  static void promise49_itWouldBeAbove99() {
    EveningVow x = at(97);
    refused(x, "3 hours", x.tell(2), 3);
    x.hour();
    refused(x, "2 hours", x.tell(1), 3);
    x.hour();
    refused(x, "1 hour", x.tell(0), 3);
    due("it is 99", x.size(9), 99);
    due("none is told", led(x, 0), THROWN);
  }

  static void promise49_toldAlready() {
    EveningVow x = at(0);
    x.tell(1);
    refused(x, "again", x.tell(1), 5);
    due("it is 2", x.size(9), 2);
    x.send(0);
    x.send(1);
    refused(x, "5 ahead of 6", x.tell(1), 5);
    x = at(95);
    x.tell(2);
    refused(x, "3 ahead of 5", x.tell(2), 3);
  }

  static void promise49_nobodyIsThere() {
    EveningVow x = empty();
    refused(x, "tell", x.tell(0), 6);
    due("hour 0", x.size(9), 0);
    due("not told", led(x, 0), THROWN);
  }

  static void promise49_itGoesOnToItsEndWithNobodyThere() {
    EveningVow x = plainly(guest("a", "plain", 30, 1), guest("b", "plain", 32, 1), TALES, "tale s hours 3 tires 29");
    due("both, in two of its hours", x.tell(3), 3);
    due("a left at 1", x.guest(0, 4), 1);
    due("b left at 3", x.guest(1, 4), 3);
    due("it is 3", x.size(9), 3);
    x = plainly(guest("a", "plain", 1, 1), "tale s hours 3 tires 30");
    due("a, in the first hour", x.tell(0), 1);
    due("left at 1", x.guest(0, 4), 1);
    due("it is 3", x.size(9), 3);
  }

  static void promise49_nobodyLeavesAheadOfItsFirstHour() {
    EveningVow x = plainly(guest("a", "homeless", 30, 0), "tale s hours 1 tires 30");
    due("tired to 0", x.tell(0), 1);
    due("left at 1, not at 0", x.guest(0, 4), 1);
    x = plainly(guest("a", "homeless", 31, 0), "tale s hours 1 tires 30");
    due("tired to 1", x.tell(0), 0);
  }

  static void promise49_allFour() {
    EveningVow x = plainly(guest("a", "homeless", 99, 0), TALES, "tale s hours 3 tires 30");
    for (int t = 3; t >= 0; t--) due("tale " + t, x.tell(t), 0);
    due("it is 9", x.size(9), 9);
    due("four acts", x.size(11), 4);
  }

  // ---- 50: cup

  static void promise50_noSuchGuest() {
    EveningVow x = at(0);
    for (int g : new int[] {-1, 2, LEAST, MOST}) refused(x, "" + g, x.cup(g), -1000, 1);
    due("all cups", x.size(0), 4);
    x = new EveningVow();
    refused(x, "no EVENING", x.cup(0), -1000, 1);
  }

  static void promise50_heIsntThere() {
    EveningVow x = at(0);
    x.send(0);
    refused(x, "sent home", x.cup(0), -1000, 5);
    due("all cups", x.size(0), 4);
    x = of(0, 1, 0, guests(2, "homeless", 9, 0));
    x.send(0);
    refused(x, "5 ahead of 6", x.cup(0), -1000, 5);
  }

  static void promise50_noCup() {
    EveningVow x = at(0);
    for (int c = 1; c <= 4; c++) due("cup " + c, x.cup(0), 99 + 30 * c);
    due("no cups", x.size(0), 0);
    refused(x, "the fifth", x.cup(0), -1000, 6);
    refused(x, "nor to the other one", x.cup(1), -1000, 6);
    due("want", x.guest(0, 1), 219);
    due("acts", x.size(11), 4);
    x = of(0, 1, 0, guests(1, "homeless", 9, 0));
    refused(x, "none told", x.cup(0), -1000, 6);
  }

  static void promise50_aWantOf0OrLess() {
    EveningVow x = of(2, 5, 0, guest("p", "polite", 1, 6));
    x.hour();
    due("-5 to 0", x.cup(0), 0);
    due("he stays", x.there(), 1);
    due("0 to 5", x.cup(0), 5);
  }

  // ---- 51: send

  static void promise51_noSuchGuest() {
    EveningVow x = at(0);
    for (int g : new int[] {-1, 2, LEAST, MOST}) refused(x, "" + g, x.send(g), 1);
    x = new EveningVow();
    refused(x, "no EVENING", x.send(0), 1);
  }

  static void promise51_heIsntThere() {
    EveningVow x = at(0);
    due("once", x.send(0), 1);
    refused(x, "twice", x.send(0), 5);
    due("one act", x.size(11), 1);
    due("the last one", x.send(1), 2);
    refused(x, "nobody is there", x.send(1), 5);
  }

  static void promise51_thenLeaving() {
    EveningVow x = of(0, 1, 9, guests(2, "homeless", 9, 0), "pair a b");
    due("b, by grief to 0", x.send(0), 3);
    x = of(0, 1, 8, guests(2, "homeless", 9, 0), "pair a b");
    due("b, by grief to 1, stays", x.send(0), 1);
    x = plainly(guest("p", "polite", 1, 1), guest("a", "homeless", 9, 0));
    x.hour();
    due("p waited for somebody", x.send(1), 3);
  }

  static void promise51_atHour0AndAtHour99() {
    EveningVow x = at(0);
    x.send(0);
    due("hour 0", x.guest(0, 4), 0);
    hours(x, 99);
    due("hour 99", x.send(1), 2);
    due("left at 99", x.guest(1, 4), 99);
    due("it is 99", x.size(9), 99);
  }

  // ---- 52: undo

  static void promise52_nothingToUndo() {
    EveningVow x = new EveningVow();
    refused(x, "no EVENING", x.undo(), 6);
    x = at(0);
    refused(x, "no act", x.undo(), 6);
    x.hour();
    x.there();
    x.guest(9, 9);
    due("one", x.undo(), true);
    due("trouble", x.trouble(), 0);
    refused(x, "no more", x.undo(), 6);
  }

  static void promise52_sixteenAreKept() {
    EveningVow x = at(16);
    due("16", x.size(11), 16);
    x.hour();
    due("16 of 17", x.size(11), 16);
    for (int i = 0; i < 16; i++) due("undo " + i, x.undo(), true);
    due("back at hour 1", x.size(9), 1);
    refused(x, "the first is lost", x.undo(), 6);
    due("hour 1 still", x.size(9), 1);
  }

  static void promise52_roundAndRound() {
    EveningVow x = at(40);
    for (int i = 0; i < 10; i++) x.undo();
    due("hour 30", x.size(9), 30);
    due("6 are left", x.size(11), 6);
    hours(x, 15);
    due("hour 45", x.size(9), 45);
    due("16 again", x.size(11), 16);
    for (int i = 0; i < 16; i++) x.undo();
    due("hour 29", x.size(9), 29);
    refused(x, "no more", x.undo(), 6);
  }

  static void promise52_eachAct() {
    EveningVow x = of(1, 5, 3, guest("a", "plain", 9, 1), guest("b", "plain", 9, 1), "pair a b", "tale t hours 3 tires 4");
    x.hour();
    x.undo();
    due("hour", 100 * x.size(9) + x.guest(0, 1), 9);
    x.cup(0);
    x.undo();
    due("cup", 100 * x.size(0) + x.guest(0, 1), 109);
    x.send(0);
    x.undo();
    due("send: there", x.there(), 3);
    due("send: when", x.guest(0, 4), -2);
    due("send: grief", x.guest(1, 1), 9);
    x.tell(0);
    x.undo();
    due("tell: hour and want", 100 * x.size(9) + x.guest(0, 1), 9);
    due("tell: not told", led(x, 0), THROWN);
    due("tell: once more", x.tell(0), 0);
  }

  static void promise52_whatIsNoActIsNotUndone() {
    EveningVow x = at(1);
    x.image();
    x.ends();
    x.soonest();
    x.latest();
    x.tell(9);
    x.cup(9);
    x.undo();
    due("the hour", x.size(9), 0);
    due("the image stays", x.size(12), 1);
    refused(x, "undo is no act", x.undo(), 6);
  }

  static void promise52_politenessIsUndone() {
    EveningVow x = plainly(guest("p", "polite", 1, 1), guest("a", "homeless", 9, 0));
    x.send(1);
    x.undo();
    due("nobody has left", x.hour(), 0);
    due("there", x.there(), 3);
  }

  // ---- 53: image

  static void promise53_noEvening() {
    EveningVow x = new EveningVow();
    refused(x, "image", x.image(), 1);
    due("images", x.size(12), 0);
  }

  static void promise53_threeAtMost() {
    EveningVow x = at(0);
    for (int i = 0; i < 3; i++) due("image " + i, x.image(), i);
    due("trouble", x.trouble(), 0);
    refused(x, "the fourth", x.image(), 3);
    due("images", x.size(12), 3);
    x.back(0);
    refused(x, "behind back", x.image(), 3);
    x.hour();
    x.undo();
    refused(x, "behind undo", x.image(), 3);
    Texts.tell(x, text(0, 1, 0, guests(1, "plain", 1, 1)));
    due("told anew", x.image(), 0);
  }

  static void promise53_itIsNoAct() {
    EveningVow x = at(0);
    x.image();
    due("acts", x.size(11), 0);
  }

  // ---- 54: back

  static void promise54_noSuchImage() {
    EveningVow x = new EveningVow();
    refused(x, "no EVENING", x.back(0), 1);
    x = at(0);
    refused(x, "no images", x.back(0), 1);
    x.image();
    for (int i : new int[] {-1, 1, 3, LEAST, MOST}) refused(x, "" + i, x.back(i), 1);
    due("0", x.back(0), true);
    due("trouble", x.trouble(), 0);
  }

  static void promise54_refusedAllStays() {
    EveningVow x = at(3);
    x.image();
    x.hour();
    refused(x, "1", x.back(1), 1);
    due("hour", x.size(9), 4);
    due("acts", x.size(11), 4);
    due("undo", x.undo(), true);
  }

  static void promise54_nothingCanBeUndoneThen() {
    EveningVow x = at(3);
    x.image();
    x.back(0);
    due("acts", x.size(11), 0);
    refused(x, "undo", x.undo(), 6);
    due("hour", x.size(9), 3);
    x.hour();
    due("an act behind it can", x.undo(), true);
    refused(x, "but no more", x.undo(), 6);
  }

  static void promise54_allIsAsByIt() {
    EveningVow x = of(2, 5, 3, guest("a", "plain", 9, 1), guest("b", "plain", 9, 1), "pair a b", "tale t hours 1 tires 1", "tale u hours 1 tires 1");
    x.tell(0);
    x.cup(0);
    x.image();
    x.tell(1);
    x.cup(0);
    x.send(0);
    x.back(0);
    due("hour", x.size(9), 1);
    due("cups", x.size(0), 1);
    due("there", x.there(), 3);
    due("want of a", x.guest(0, 1), 12);
    due("want of b", x.guest(1, 1), 7);
    due("left", x.guest(0, 4), -2);
    due("told", led(x, 0), 0);
    due("told alone", led(x, 1), THROWN);
  }

  static void promise54_allImagesStay() {
    EveningVow x = at(0);
    x.image();
    x.hour();
    x.image();
    x.hour();
    x.image();
    for (int round = 0; round < 2; round++) {
      for (int i = 2; i >= 0; i--) {
        due("back " + i, x.back(i), true);
        due("hour " + i, x.size(9), i);
        x.cup(0);
        x.send(0);
        due("images", x.size(12), 3);
      }
    }
    x.back(1);
    due("untouched by acts", x.there(), 3);
    due("cups, too", x.size(0), 4);
  }

  static void promise54_behindAFaultTheyStayBehindATextTheyDont() {
    EveningVow x = at(0);
    x.image();
    x.hour();
    Texts.tell(x, "evening");
    due("back", x.back(0), true);
    due("hour", x.size(9), 0);
    Texts.tell(x, text(0, 1, 0, guests(1, "plain", 1, 1)));
    refused(x, "told anew", x.back(0), 1);
  }
}
