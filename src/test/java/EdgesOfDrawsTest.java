/** Boundary cases of promises 44 to 47: evenings by draws. What ends when was worked out apart from the program. */
public final class EdgesOfDrawsTest extends Edges {
  public static void main(String[] args) {
    runAll(EdgesOfDrawsTest.class, 44, 47);
  }

  /** By seed 65536, which becomes itself, each of these sinks by 1 an hour. */
  private static EveningVow till(int hour) {
    return plainly(guest("a", "plain", hour, 2));
  }

  /** From 0 four evenings end in 56 hours, not, in 51, not; from 5 the first doesn't, the second ends in 60. */
  private static EveningVow some() {
    return plainly(guest("a", "plain", 60, 1));
  }

  private static EveningVow empty() {
    EveningVow x = till(9);
    x.send(0);
    return x;
  }

  // ---- 44: endsBy

  static void promise44_seedsFrom0To65536() {
    EveningVow x = till(9);
    due("0", x.endsBy(0), 3);
    due("65536", x.endsBy(65536), 9);
    due("trouble", x.trouble(), 0);
    for (int seed : new int[] {-1, 65537, LEAST, MOST}) refused(x, "" + seed, x.endsBy(seed), 2);
  }

  static void promise44_noEvening() {
    EveningVow x = new EveningVow();
    refused(x, "endsBy", x.endsBy(0), 1);
    refused(x, "ahead of a number", x.endsBy(-1), 1);
  }

  static void promise44_theSeedWrapsRoundAt65537() {
    // 872 becomes 65474, 38 mod 41; 873 becomes 65549, which is 12; that becomes 974, 31 mod 41
    EveningVow x = plainly(guest("a", "plain", 20, 20));
    due("872", x.endsBy(872), 1);
    due("873", x.endsBy(873), 2);
  }

  static void promise44_in0To60OrNot() {
    due("nobody is there", empty().endsBy(0), 0);
    due("1", till(1).endsBy(65536), 1);
    due("60", till(60).endsBy(65536), 60);
    due("61", till(61).endsBy(65536), -2);
    due("sinks by 0", plainly(guest("a", "plain", 1, 0)).endsBy(0), -2);
  }

  static void promise44_aHiredOneDrawsFromHour6On() {
    // the first draw from 0 is 4 mod 5, the seventh 1
    due("by the first draw", plainly(guest("a", "hired", 4, 2)).endsBy(0), 7);
  }

  static void promise44_aHomelessOneDrawsNever() {
    // from 5624 the first draw is 2 mod 5, the second 0
    due("by the first draw", of(0, 1, 40, guest("h", "homeless", 40, 2), guest("a", "plain", 2, 2), "pair h a").endsBy(5624), 1);
  }

  static void promise44_oneWhoLeftDrawsNoMore() {
    // from 0 the draws are 4, 4, 2, 0 mod 5: b's, a's, then a's again
    due("by the third draw", plainly(guest("b", "plain", 1, 2), guest("a", "plain", 6, 2)).endsBy(0), 2);
  }

  static void promise44_oneWhoSinksBy0DrawsAllTheSame() {
    // from 28652 the first draw is 0 mod 5, the second 1
    due("by the second draw", of(0, 1, 40, guest("z", "plain", 1, 0), guest("a", "plain", 1, 2), "pair z a").endsBy(28652), 1);
  }

  static void promise44_nothingIsKept() {
    EveningVow x = till(9);
    x.endsBy(0);
    due("again", x.endsBy(0), 3);
    due("as told", x.ends(), 5);
    due("hour", x.size(9), 0);
    due("acts", x.size(11), 0);
  }

  // ---- 45: mean

  static void promise45_seedsFrom0To65536() {
    EveningVow x = till(9);
    due("65536", x.mean(65536, 1, false), 9);
    for (int seed : new int[] {-1, 65537, LEAST, MOST}) {
      refused(x, "" + seed, x.mean(seed, 1, false), 2);
      refused(x, "lower, " + seed, x.mean(seed, 1, true), 2);
    }
  }

  static void promise45_from1To90Evenings() {
    EveningVow x = till(9);
    due("1", x.mean(65536, 1, false), 9);
    due("1, lower", x.mean(65536, 1, true), 1);
    due("90", x.mean(65536, 90, false), 9);
    due("90, lower", x.mean(65536, 90, true), 1);
    for (int n : new int[] {-1, 0, 91, LEAST, MOST}) {
      refused(x, "" + n, x.mean(0, n, false), 2);
      refused(x, "lower, " + n, x.mean(0, n, true), 2);
    }
  }

  static void promise45_noEvening() {
    EveningVow x = new EveningVow();
    refused(x, "mean", x.mean(0, 1, true), 1);
    refused(x, "ahead of a number", x.mean(0, 0, true), 1);
  }

  static void promise45_noneEnds() {
    EveningVow x = till(61);
    due("upper", x.mean(65536, 90, false), 0);
    due("lower", x.mean(65536, 90, true), 1);
    due("the first from 5", some().mean(5, 1, false), 0);
    due("the first from 5, lower", some().mean(5, 1, true), 1);
  }

  static void promise45_ofThoseThatEnd() {
    due("56", some().mean(0, 2, false), 56);
    due("of 1", some().mean(0, 2, true), 1);
    due("56 and 51", some().mean(0, 4, false), 107);
    due("of 2", some().mean(0, 4, true), 2);
    due("60, behind one that doesn't", some().mean(5, 2, false), 60);
    due("of 1", some().mean(5, 2, true), 1);
  }

  static void promise45_inLowestTerms() {
    // from 0 they end in 2, 4, 2, 3, 2, 4, 3, 3 hours
    EveningVow x = till(5);
    due("6 by 2", x.mean(0, 2, false), 3);
    due("6 by 2, lower", x.mean(0, 2, true), 1);
    due("8 by 3", x.mean(0, 3, false), 8);
    due("8 by 3, lower", x.mean(0, 3, true), 3);
    due("11 by 4", x.mean(0, 4, false), 11);
    due("11 by 4, lower", x.mean(0, 4, true), 4);
    due("20 by 7", x.mean(0, 7, false), 20);
    due("20 by 7, lower", x.mean(0, 7, true), 7);
  }

  static void promise45_nobodyIsThere() {
    due("upper", empty().mean(0, 90, false), 0);
    due("lower", empty().mean(0, 90, true), 1);
  }

  // ---- 46: often

  static void promise46_numbersOutOfBounds() {
    EveningVow x = till(9);
    for (int seed : new int[] {-1, 65537, LEAST, MOST}) refused(x, "seed " + seed, x.often(seed, 1, 0), 2);
    for (int n : new int[] {-1, 0, 91, LEAST, MOST}) refused(x, "n " + n, x.often(0, n, 0), 2);
    for (int h : new int[] {-1, 61, LEAST, MOST}) refused(x, "hours " + h, x.often(0, 1, h), 2);
    due("the least", x.often(0, 1, 0), 0);
    due("the most", x.often(65536, 90, 60), 90);
    due("trouble", x.trouble(), 0);
  }

  static void promise46_noEvening() {
    EveningVow x = new EveningVow();
    refused(x, "often", x.often(0, 1, 0), 1);
    refused(x, "ahead of a number", x.often(-1, 0, 61), 1);
  }

  static void promise46_soManyHoursOrFewer() {
    due("8", till(9).often(65536, 3, 8), 0);
    due("9", till(9).often(65536, 3, 9), 3);
    due("60", some().often(0, 4, 60), 2);
    due("55", some().often(0, 4, 55), 1);
    due("51", some().often(0, 4, 51), 1);
    due("50", some().often(0, 4, 50), 0);
    due("in 60, behind one that doesn't", some().often(5, 2, 60), 1);
    due("not in 59", some().often(5, 2, 59), 0);
    due("in 61", till(61).often(65536, 9, 60), 0);
  }

  static void promise46_nobodyIsThere() {
    due("in 0", empty().often(0, 90, 0), 90);
  }

  // ---- 47: keeps

  static void promise47_noSuchGuest() {
    EveningVow x = till(9);
    for (int g : new int[] {-1, 1, LEAST, MOST}) refused(x, "" + g, x.keeps(g, 0, 1), 1);
    refused(x, "1 ahead of 2", x.keeps(1, -1, 0), 1);
    x = new EveningVow();
    refused(x, "no EVENING", x.keeps(0, 0, 1), 1);
  }

  static void promise47_numbersOutOfBounds() {
    EveningVow x = till(9);
    for (int seed : new int[] {-1, 65537, LEAST, MOST}) refused(x, "seed " + seed, x.keeps(0, seed, 1), 2);
    for (int n : new int[] {-1, 0, 91, LEAST, MOST}) refused(x, "n " + n, x.keeps(0, 0, n), 2);
    due("the least", x.keeps(0, 0, 1), 1);
    due("the most", x.keeps(0, 65536, 90), 90);
    due("trouble", x.trouble(), 0);
  }

  static void promise47_amongThoseWhoLeaveLast() {
    EveningVow x = of(0, 1, 40, guest("a", "plain", 9, 2), guest("b", "homeless", 40, 0), guest("c", "plain", 8, 2), "pair a b");
    due("a", x.keeps(0, 65536, 5), 5);
    due("b, a round behind in that hour", x.keeps(1, 65536, 5), 5);
    due("c, an hour ahead", x.keeps(2, 65536, 5), 0);
  }

  static void promise47_onlyIfItEnds() {
    due("two of four", some().keeps(0, 0, 4), 2);
    due("in 60, behind one that doesn't", some().keeps(0, 5, 2), 1);
    due("never", till(61).keeps(0, 65536, 9), 0);
    due("he leaves in the 60th, another one stays", plainly(guest("a", "plain", 60, 2), guest("b", "homeless", 1, 0)).keeps(0, 65536, 1), 0);
    EveningVow x = till(9);
    due("one of one", x.keeps(0, 0, 1), 1);
    x.send(0);
    due("nobody is there", x.keeps(0, 0, 9), 0);
  }
}
