/** Boundary cases of promises 36 to 43: cups unseen, what the town pays, two houses. */
public final class EdgesOfTownTest extends Edges {
  public static void main(String[] args) {
    runAll(EdgesOfTownTest.class, 36, 43);
  }

  /** One guest who leaves at an hour, a cup that keeps him an hour longer, and more lines. */
  private static EveningVow till(int hour, String... lines) {
    return of(0, 1, 0, guest("a", "plain", hour, 1) + (lines.length == 0 ? "" : ";" + String.join(";", lines)));
  }

  // ---- 36: ways

  static void promise36_noEvening() {
    EveningVow x = new EveningVow();
    refused(x, "ways", x.ways(), 1);
  }

  static void promise36_noWay() {
    EveningVow x = till(5, "gone a hour 0");
    due("all are there at hour 0", x.ways(), 0);
    due("trouble", x.trouble(), 0);
    due("seen and gone at one hour", till(5, "seen a hour 2", "gone a hour 2").ways(), 0);
  }

  static void promise36_nothingWasSeen() {
    due("seven for ever: no cup, or one at each of 31 hours to each", plainly(guests(7, "homeless", 1, 0)).ways(), 1 + 31 * 7);
    due("one", plainly(guest("a", "homeless", 1, 0)).ways(), 32);
  }

  static void promise36_toOneWhoIsThereThen() {
    due("hours 0 to 29", till(30).ways(), 31);
    due("hours 0 to 30", till(31).ways(), 32);
    due("hour 0", till(1).ways(), 2);
  }

  static void promise36_seenAtHour30() {
    EveningVow x = till(30, "seen a hour 30");
    due("a cup at one of hours 0 to 29", x.ways(), 30);
    due("the first", x.wayAt(0), 0);
    due("the last", x.wayAt(29), 290);
    due("there without a cup: 31 more", till(31, "seen a hour 30").ways(), 32);
  }

  static void promise36_goneAtHour30() {
    EveningVow x = till(30, "gone a hour 30");
    due("no cup", x.ways(), 1);
    due("it is", x.wayAt(0), -2);
    due("there without a cup", till(31, "gone a hour 30").ways(), 0);
  }

  static void promise36_seenAtHour0() {
    due("all ways", till(3, "seen a hour 0").ways(), 4);
  }

  static void promise36_aCupAheadOfItsHour() {
    EveningVow x = till(1, "seen a hour 1");
    due("at hour 0", x.ways(), 1);
    due("to a", x.wayAt(0), 0);
    x = till(1, "gone a hour 1");
    due("no cup", x.ways(), 1);
    due("no cup", x.wayAt(0), -2);
    // a cup at the hour of the sight itself is behind it
    x = till(2, "seen a hour 1", "gone a hour 2");
    due("no cup", x.ways(), 1);
  }

  static void promise36_oneCupOnly() {
    due("two hours longer", till(2, "seen a hour 3").ways(), 0);
    due("one hour longer", till(2, "seen a hour 2").ways(), 2);
  }

  static void promise36_fromTheBeginningWhateverIsDone() {
    EveningVow x = of(1, 1, 0, guests(2, "plain", 2, 1), "seen a hour 2", "tale t hours 1 tires 30");
    due("as told", x.ways(), 2);
    x.cup(0);
    x.send(1);
    due("a cup, one sent home", x.ways(), 2);
    x.tell(0);
    due("nobody is there", x.ways(), 2);
    Texts.tell(x, text(0, 1, 0, guest("a", "plain", 5, 1), "seen a hour 5", "seen a hour 6"));
    due("told anew", x.ways(), 0);
    due("told anew: judge", x.judge(), 0);
  }

  // ---- 37: wayAt

  static void promise37_noSuchWay() {
    EveningVow x = till(3);
    due("the last", x.wayAt(3), 20);
    for (int i : new int[] {-1, 4, 218, LEAST, MOST}) refused(x, "" + i, x.wayAt(i), 1);
    x = till(5, "gone a hour 0");
    refused(x, "no way", x.wayAt(0), 1);
    x = new EveningVow();
    refused(x, "no EVENING", x.wayAt(0), 1);
  }

  static void promise37_noCupAheadOfAll() {
    due("no cup", till(3).wayAt(0), -2);
    due("hour 0, guest 0 is no -2", till(3).wayAt(1), 0);
    due("not so without a cup", till(2, "seen a hour 2").wayAt(0), 0);
  }

  static void promise37_byHoursThenGuests() {
    EveningVow x = plainly(guests(7, "homeless", 1, 0));
    for (int i = 0; i < 217; i++) due("way " + (i + 1), x.wayAt(i + 1), 10 * (i / 7) + i % 7);
    refused(x, "218", x.wayAt(218), 1);
  }

  // ---- 38: judge

  static void promise38_noEvening() {
    EveningVow x = new EveningVow();
    refused(x, "judge", x.judge(), 1);
  }

  static void promise38_allIsSo() {
    due("nothing was seen", till(3).judge(), -2);
    EveningVow x = till(3, "seen a hour 0", "seen a hour 2", "gone a hour 3", "gone a hour 30");
    due("all", x.judge(), -2);
    due("trouble", x.trouble(), 0);
  }

  static void promise38_theFirstAndTheLast() {
    due("the first", till(3, "seen a hour 3", "gone a hour 2").judge(), 0);
    due("the sixth", till(3, "seen a hour 0", "seen a hour 1", "seen a hour 2", "gone a hour 3", "gone a hour 4", "gone a hour 2").judge(), 5);
    due("as told, not by hours", till(3, "seen a hour 0", "gone a hour 30", "seen a hour 9", "gone a hour 0").judge(), 2);
  }

  static void promise38_fromTheBeginning() {
    EveningVow x = till(3, "seen a hour 2");
    x.send(0);
    due("as told", x.judge(), -2);
  }

  // ---- 39: pays

  static void promise39_from0To99() {
    EveningVow x = till(3, "need n by 30 pays 5");
    due("0", x.pays(0), 5);
    due("99", x.pays(99), 0);
    due("trouble", x.trouble(), 0);
    for (int h : new int[] {-1, 100, LEAST, MOST}) refused(x, "" + h, x.pays(h), 2);
  }

  static void promise39_noEvening() {
    EveningVow x = new EveningVow();
    refused(x, "pays", x.pays(0), 1);
    refused(x, "ahead of a number", x.pays(100), 1);
  }

  static void promise39_theVeryHour() {
    EveningVow x = till(3, "need m by 0 pays 1", "need n by 30 pays 99");
    due("0", x.pays(0), 100);
    due("1", x.pays(1), 99);
    due("30", x.pays(30), 99);
    due("31", x.pays(31), 0);
  }

  static void promise39_noneOrAll() {
    due("no needs", till(3).pays(0), 0);
    due("five of 99", till(3, "need p by 9 pays 99", "need q by 9 pays 99", "need r by 9 pays 99", "need s by 9 pays 99", "need t by 9 pays 99").pays(9), 495);
  }

  // ---- 40: paid

  static void promise40_noEvening() {
    EveningVow x = new EveningVow();
    refused(x, "paid", x.paid(), 1);
  }

  static void promise40_theVeryHour() {
    due("ends at 5", till(5, "need n by 5 pays 7").paid(), 7);
    due("ends at 6", till(6, "need n by 5 pays 7").paid(), 0);
    due("ends at 30", till(30, "need n by 30 pays 7").paid(), 7);
  }

  static void promise40_itDoesntEnd() {
    EveningVow x = plainly(guest("a", "homeless", 1, 0), "need n by 30 pays 7");
    due("never", x.paid(), 0);
    due("trouble", x.trouble(), 0);
    due("in 61", till(61, "need n by 30 pays 7").paid(), 0);
  }

  static void promise40_theHourOfTheEveningNotFromNow() {
    EveningVow x = till(5, "need m by 4 pays 1", "need n by 5 pays 7");
    hours(x, 3);
    due("at 5", x.paid(), 7);
    x.hour();
    due("at 5 still", x.paid(), 7);
    x.send(0);
    due("ended at 4", x.paid(), 8);
  }

  static void promise40_endedAtHour0() {
    EveningVow x = till(5, "need m by 0 pays 1");
    x.send(0);
    due("at 0", x.paid(), 1);
  }

  // ---- 41: house

  static void promise41_from0To6() {
    EveningVow x = till(1);
    due("0 and 0", x.house(0, 0, false), 0);
    due("6 and 6", x.house(6, 6, true), -6);
    for (int h : new int[] {-1, 7, LEAST, MOST}) {
      refused(x, "one " + h, x.house(h, 0, false), -100, 2);
      refused(x, "other " + h, x.house(0, h, false), -100, 2);
      refused(x, "of other, one " + h, x.house(h, 6, true), -100, 2);
      refused(x, "of other, other " + h, x.house(6, h, true), -100, 2);
    }
  }

  static void promise41_noEvening() {
    EveningVow x = new EveningVow();
    refused(x, "house", x.house(0, 0, false), -100, 1);
    refused(x, "ahead of a number", x.house(7, 7, true), -100, 1);
  }

  static void promise41_asLong() {
    EveningVow x = till(1);
    for (int h = 0; h <= 6; h++) {
      due("one, " + h, x.house(h, h, false), -h);
      due("other, " + h, x.house(h, h, true), -h);
    }
  }

  static void promise41_longer() {
    EveningVow x = till(1);
    due("6 and 5", x.house(6, 5, false), 15 - 6);
    due("6 and 5, other", x.house(6, 5, true), -15 - 5);
    due("5 and 6", x.house(5, 6, false), -15 - 5);
    due("5 and 6, other", x.house(5, 6, true), 15 - 6);
    due("1 and 0", x.house(1, 0, false), -1);
    due("1 and 0, other", x.house(1, 0, true), 0);
    due("6 and 0", x.house(6, 0, false), -6);
  }

  // ---- 42, 43: rests, rest

  static void promise42_one() {
    EveningVow x = till(1);
    due("neither goes on", x.rests(), 1);
    x = new EveningVow();
    refused(x, "no EVENING", x.rests(), 1);
  }

  static void promise42_asTheHousesHaveIt() {
    int rests = 0;
    for (int one = 0; one <= 6; one++) {
      for (int other = 0; other <= 6; other++) {
        boolean rest = true;
        for (int h = 0; h <= 6 && rest; h++) {
          rest = has(h, other, false) <= has(one, other, false) && has(one, h, true) <= has(one, other, true);
        }
        if (rest) rests++;
      }
    }
    due("rests", till(1).rests(), rests);
  }

  /** By a new object each time: an object is used for no more than 512 calls. */
  private static int has(int one, int other, boolean ofOther) {
    return till(1).house(one, other, ofOther);
  }

  static void promise43_theFirst() {
    EveningVow x = till(1);
    due("0 and 0", x.rest(), 0);
    due("trouble", x.trouble(), 0);
    x = new EveningVow();
    refused(x, "no EVENING", x.rest(), 1);
  }
}
